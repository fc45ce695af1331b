import java.util.ArrayList;
import java.util.Arrays;
import java.util.NoSuchElementException;

/**
 * A post office as ../shared/DOC.md tells it; words in great letters are the document's terms.
 * All rows that calls need are made once, in constructors, since what a run of calls makes is counted.
 */
public final class PostRoom {
    public static final int NONE = -1;

    private final Tape tape;
    private final Finder finder;
    private final Post post;
    private final Machine machine;
    private Script script;
    private Script spare;
    private boolean hasScript;
    private int foundDoor;
    private int foundFar;
    private int mendedSigns;

    public PostRoom() {
        tape = new Tape();
        finder = new Finder();
        post = new Post(tape);
        machine = new Machine(post);
        script = new Script();
        spare = new Script();
        hasScript = false;
        foundDoor = NONE;
        foundFar = NONE;
        mendedSigns = NONE;
    }

    public int feed(long a, long b, long c) {
        tape.append(a);
        tape.append(b);
        tape.append(c);
        return tape.length;
    }

    public int book() {
        Book next = new Book(tape);
        int fault = next.readAll();
        tape.clear();
        if (fault == 0) {
            post.begin(next);
            machine.begin();
            hasScript = false;
            foundDoor = NONE;
            foundFar = NONE;
            mendedSigns = NONE;
        }
        return fault;
    }

    public int find() {
        int piece = takeAddress();
        if (piece >= 0) {
            foundDoor = finder.door;
            foundFar = finder.far;
        }
        return piece;
    }

    public int found(int what) {
        if (what == 0) {
            return foundDoor;
        }
        return what == 1 ? foundFar : NONE;
    }

    public int price(int service, int weight, int from, int to) throws IllegalArgumentException {
        Book book = post.book;
        if (!book.hasService(service) || !book.hasOffice(from) || !book.hasOffice(to)) {
            throw new IllegalArgumentException("no such service or office");
        }
        return book.priceOf(service, weight, from, to);
    }

    public int way(int from, int to) throws IllegalArgumentException {
        if (!post.book.hasOffice(from) || !post.book.hasOffice(to)) {
            throw new IllegalArgumentException("no such office");
        }
        return post.wayComes(from, to);
    }

    public int accept(int service, int weight, int from) throws IllegalArgumentException {
        int piece = takeAddress();
        Book book = post.book;
        if (!book.hasService(service) || !book.hasOffice(from)) {
            throw new IllegalArgumentException("no such service or office");
        }
        if (piece < 0) {
            return piece;
        }
        if (!book.services.get(service).takes(weight)) {
            return -3;
        }
        if (post.items.size() >= Post.MOST_ITEMS) {
            return -4;
        }
        return post.takeIn(service, weight, from, piece, finder.door);
    }

    public int bar(int item, int i) throws NoSuchElementException {
        if (!post.hasItem(item) || i < 0 || i >= Item.BARS) {
            throw new NoSuchElementException("no such item or bar");
        }
        return post.items.get(item).signs[i / 3] >> (4 - i % 3 * 2) & 3;
    }

    public int read() {
        int[] signs = new int[Item.SIGNS];
        boolean[] unknown = new boolean[Item.SIGNS];
        boolean isBars = tape.readBars(signs, unknown);
        tape.clear();
        if (!isBars) {
            return -3;
        }
        int mended = Item.mend(signs, unknown);
        if (mended == NONE) {
            return NONE;
        }
        mendedSigns = mended;
        int item = post.itemWith(signs);
        return item == NONE ? -2 : item;
    }

    public int mended() {
        return mendedSigns;
    }

    public int tick(int n) {
        return n < 0 || n > 3000 ? NONE : post.pass(n);
    }

    public int sort(int office) {
        return post.book.hasOffice(office) ? post.sortShelf(office) : NONE;
    }

    public int deliver(int office, int walk) {
        if (!post.book.hasOffice(office) || walk < 0 || walk > 10) {
            return -2;
        }
        return walk == 10 ? post.giveBack(office) : post.walkOut(office, walk);
    }

    public boolean moved(int piece, int door) {
        int to = takeAddress();
        if (to < 0 || !post.book.hasPiece(piece) || to == piece && finder.door == door) {
            return false;
        }
        return post.tellMoved(piece, door, Post.doorKey(to, finder.door));
    }

    public boolean gone(int piece, int door) {
        return post.book.hasPiece(piece) && post.tellMoved(piece, door, NONE);
    }

    public int programme() {
        int fault = spare.readAll(tape);
        tape.clear();
        if (fault == 0) {
            Script old = script;
            script = spare;
            spare = old;
            hasScript = true;
        }
        return fault;
    }

    public int run(int office, int n) {
        if (!hasScript || !post.book.hasOffice(office) || n < 1 || n > Machine.MOST_STEPS) {
            return NONE;
        }
        return machine.perform(script, office, n);
    }

    public long number(int k) throws IndexOutOfBoundsException {
        if (k < 0 || k >= machine.numbers.length) {
            throw new IndexOutOfBoundsException("no such number");
        }
        return machine.numbers[k];
    }

    public int held(int k) throws IndexOutOfBoundsException {
        if (k < 0 || k >= machine.hands.length) {
            throw new IndexOutOfBoundsException("no such hand");
        }
        return machine.hands[k];
    }

    public int tray(int t, int what) throws IndexOutOfBoundsException {
        if (t < 0 || t >= Machine.TRAYS) {
            throw new IndexOutOfBoundsException("no such tray");
        }
        return machine.toldOfTray(t, what);
    }

    public long place(int t, int k) throws NoSuchElementException {
        if (t < 0 || t >= Machine.TRAYS || machine.trayRow[t] == 0 || k < 0 || k >= machine.traySize[t]) {
            throw new NoSuchElementException("no such tray or place");
        }
        return machine.arena[machine.trayFrom[t] + k];
    }

    public int item(int i, int what) throws NoSuchElementException {
        if (!post.hasItem(i) || what < 0 || what > 10) {
            throw new NoSuchElementException("no such item or question");
        }
        return post.items.get(i).told(what);
    }

    public int shelf(int office, int k) {
        return post.book.hasOffice(office) ? numberIn(post.book.offices.get(office).shelf, k) : NONE;
    }

    public int bag(int coach, int k) {
        return post.book.hasCoach(coach) ? numberIn(post.book.coaches.get(coach).bag, k) : NONE;
    }

    public int count(int what) {
        switch (what) {
            case 0: return post.book.offices.size();
            case 1: return post.book.streets.size();
            case 2: return post.book.services.size();
            case 3: return post.book.coaches.size();
            case 4: return post.clock;
            case 5: return post.items.size();
            case 6: case 7: case 8: case 9: case 10: return post.itemsThatAre(what - 6);
            case 11: return post.movedDoors;
            case 12: return post.seal;
            case 13: return machine.allSteps;
            case 14: return machine.steps;
            case 15: return post.allPrices();
            case 16: return tape.length;
            case 17: return post.coachesUnderWay();
            default: return NONE;
        }
    }

    private int takeAddress() {
        int piece = finder.seek(tape, post.book);
        tape.clear();
        return piece;
    }

    private static int numberIn(ArrayList<Item> row, int k) {
        return k < 0 || k >= row.size() ? NONE : row.get(k).number;
    }

    /** The signs that were fed, and the TOKEN that is looked at. */
    private static final class Tape {
        static final int MOST = 4000;
        static final int END = 0;
        static final int BAD = 1;
        static final int NAME = 2;
        static final int NUMBER = 3;
        static final int LONGEST_NAME = 12;
        static final int LONGEST_NUMBER = 9;
        static final int DIGIT = 27;
        static final String SIGNS = ";,=<+-*/%(){}[]@";

        final char[] signs;
        int length;
        int start;
        int stop;
        int kind;
        int value;
        long name;

        Tape() {
            signs = new char[MOST];
            length = 0;
        }

        void append(long bytes) {
            for (int shift = 56; shift >= 0; shift -= 8) {
                int sign = (int) (bytes >>> shift) & 255;
                if (length < MOST && (sign == 10 || sign >= 32 && sign <= 126)) {
                    signs[length] = (char) sign;
                    length++;
                }
            }
        }

        void clear() {
            length = 0;
        }

        /** 1 to 26 for letters, 27 to 36 for digits, 0 for all else: a packed NAME is a number of base 37 in these. */
        static int codeOf(char sign) {
            if (sign >= 'a' && sign <= 'z') {
                return sign - 'a' + 1;
            }
            return sign >= '0' && sign <= '9' ? sign - '0' + DIGIT : 0;
        }

        void rewind() {
            stop = 0;
            advance();
        }

        void advance() {
            int at = stop;
            while (at < length && (signs[at] == ' ' || signs[at] == 10)) {
                at++;
            }
            start = at;
            value = 0;
            name = 0;
            boolean isNumber = at < length && codeOf(signs[at]) >= DIGIT;
            int leastCode = isNumber ? DIGIT : 1;
            while (at < length && codeOf(signs[at]) >= leastCode) {
                int code = codeOf(signs[at]);
                value = isNumber ? value * 10 + code - DIGIT : 0;
                name = name * 37 + code;
                at++;
            }
            stop = at;
            if (start >= length) {
                kind = END;
            } else if (stop == start) {
                kind = SIGNS.indexOf(signs[start]) >= 0 ? signs[start] : BAD;
                stop = start + 1;
            } else if (isNumber) {
                kind = stop - start > LONGEST_NUMBER ? BAD : NUMBER;
            } else {
                kind = stop - start > LONGEST_NAME ? BAD : NAME;
            }
        }

        /** Which of the words, of small letters and parted by one blank each, the TOKEN is. */
        int wordIn(String words) {
            if (kind != NAME) {
                return NONE;
            }
            int index = 0;
            long word = 0;
            for (int at = 0; at < words.length(); at++) {
                char sign = words.charAt(at);
                if (sign != ' ') {
                    word = word * 37 + sign - 'a' + 1;
                } else if (word == name) {
                    return index;
                } else {
                    index++;
                    word = 0;
                }
            }
            return word == name ? index : NONE;
        }

        /** Puts the TOKEN's codes behind others in a row that has room for them; where they end. */
        int copyCodes(int[] row, int from) {
            int at = from;
            for (int i = start; i < stop && at < row.length; i++) {
                row[at] = codeOf(signs[i]);
                at++;
            }
            return at;
        }

        boolean readBars(int[] row, boolean[] unknown) {
            if (length != Item.BARS) {
                return false;
            }
            for (int i = 0; i < Item.BARS; i++) {
                char sign = signs[i];
                if (sign == '?') {
                    unknown[i / 3] = true;
                } else if (sign < '0' || sign > '3') {
                    return false;
                } else {
                    row[i / 3] = row[i / 3] * 4 + sign - '0';
                }
            }
            return true;
        }
    }

    private static final class Office {
        long name;
        int[] text;
        int code;
        int x;
        int y;
        final ArrayList<Item> shelf;

        Office() {
            shelf = new ArrayList<Item>();
        }
    }

    /** A PIECE of a street. */
    private static final class Street {
        static final int EAST = 0;
        static final int NORTH = 1;
        static final int WEST = 2;
        static final int SOUTH = 3;

        int[] text;
        int office;
        int parity;
        int least;
        int most;
        int x;
        int y;
        int goes;
        int walk;

        /** Parity is 0 for any number, 1 for odd ones, 2 for even ones. */
        boolean fits(int number) {
            return number >= least && number <= most && (parity == 0 || number % 2 == parity % 2);
        }

        int doorX(int number) {
            int on = number - least;
            return goes == EAST ? x + on : goes == WEST ? x - on : x;
        }

        int doorY(int number) {
            int on = number - least;
            return goes == NORTH ? y + on : goes == SOUTH ? y - on : y;
        }
    }

    private static final class Service {
        static final int LETTER = 0;
        static final int PARCEL = 1;
        static final int REGISTER = 2;
        static final int MOST_RULES = 8;
        static final int BASE = 0;
        static final int EACH = 1;
        static final int ZONE = 2;
        static final int FAR = 3;
        static final int UP = 4;
        static final int LEAST = 5;
        static final int CUT = 6;
        static final String RULES = "base each zone far up least cut";
        static final int DEAREST = 1000000;

        long name;
        int kind;
        int most;
        int rules;
        final int[] ruleKind;
        final int[] amount;
        final int[] part;
        final int[] over;

        Service() {
            ruleKind = new int[MOST_RULES];
            amount = new int[MOST_RULES];
            part = new int[MOST_RULES];
            over = new int[MOST_RULES];
        }

        boolean takes(int weight) {
            return weight >= 1 && weight <= most;
        }

        int priceFor(int weight, int zone) {
            long sum = 0;
            for (int i = 0; i < rules; i++) {
                sum = byRule(i, sum, weight, zone);
            }
            return sum > DEAREST ? DEAREST : (int) sum;
        }

        long byRule(int i, long sum, int weight, int zone) {
            long p = amount[i];
            switch (ruleKind[i]) {
                case BASE:
                    return sum + p;
                case EACH:
                    return weight > over[i] && part[i] > 0 ? sum + p * ((weight - over[i] + part[i] - 1) / part[i]) : sum;
                case ZONE:
                    return zone == part[i] ? sum + p : sum;
                case FAR:
                    return zone > 1 ? sum + p * (zone - 1) : sum;
                case UP:
                    return p > 0 ? (sum + p - 1) / p * p : sum;
                case LEAST:
                    return Math.max(sum, p);
                default:
                    return sum - sum * p / 100;
            }
        }
    }

    private static final class Coach {
        static final int DAY = 1440;

        int from;
        int to;
        int first;
        int every;
        int last;
        int takes;
        int holds;
        final ArrayList<Item> bag;

        Coach() {
            every = 1;
            bag = new ArrayList<Item>();
        }

        boolean goesAt(int clock) {
            int minute = clock % DAY;
            return minute >= first && minute <= last && every > 0 && (minute - first) % every == 0;
        }

        /** The first minute behind the one told in which the coach may go. */
        int timeBehind(int clock) {
            int day = clock - clock % DAY;
            int minute = clock % DAY;
            if (minute < first) {
                return day + first;
            }
            int next = every > 0 ? minute + every - (minute - first) % every : DAY;
            return next <= last ? day + next : day + DAY + first;
        }
    }

    /** What a book tells; a new one is read beside the old one, so that a FAULT leaves the old one as it is. */
    private static final class Book {
        static final int MOST_OFFICES = 16;
        static final int MOST_SHORTS = 20;
        static final int MOST_STREETS = 60;
        static final int MOST_SERVICES = 8;
        static final int MOST_COACHES = 40;
        static final int MOST_NAMES = 3;
        static final int WRONG = 1;
        static final int NO_OFFICE = 2;
        static final int TOLD = 3;
        static final int RANGE = 4;
        static final int MANY = 5;

        final ArrayList<Office> offices;
        final ArrayList<Street> streets;
        final ArrayList<Service> services;
        final ArrayList<Coach> coaches;
        final long[] shortNames;
        final long[] shortMeans;
        int shorts;
        int fault;
        final Tape tape;

        Book(Tape from) {
            tape = from;
            offices = new ArrayList<Office>();
            streets = new ArrayList<Street>();
            services = new ArrayList<Service>();
            coaches = new ArrayList<Coach>();
            shortNames = new long[MOST_SHORTS];
            shortMeans = new long[MOST_SHORTS];
        }

        boolean hasOffice(int i) {
            return i >= 0 && i < offices.size();
        }

        boolean hasPiece(int i) {
            return i >= 0 && i < streets.size();
        }

        boolean hasService(int i) {
            return i >= 0 && i < services.size();
        }

        boolean hasCoach(int i) {
            return i >= 0 && i < coaches.size();
        }

        int priceOf(int service, int weight, int from, int to) {
            Service told = services.get(service);
            return told.takes(weight) ? told.priceFor(weight, zoneOf(from, to)) : NONE;
        }

        int zoneOf(int from, int to) {
            if (from == to) {
                return 0;
            }
            Office a = offices.get(from);
            Office b = offices.get(to);
            return Math.min(9, 1 + (Math.abs(a.x - b.x) + Math.abs(a.y - b.y)) / 100);
        }

        int officeNamed(long name) {
            for (int i = 0; i < offices.size(); i++) {
                if (offices.get(i).name == name) {
                    return i;
                }
            }
            return NONE;
        }

        boolean hasCode(int code) {
            for (int i = 0; i < offices.size(); i++) {
                if (offices.get(i).code == code) {
                    return true;
                }
            }
            return false;
        }

        boolean hasServiceNamed(long name) {
            for (int i = 0; i < services.size(); i++) {
                if (services.get(i).name == name) {
                    return true;
                }
            }
            return false;
        }

        int shortNamed(long name) {
            for (int i = 0; i < shorts; i++) {
                if (shortNames[i] == name) {
                    return i;
                }
            }
            return NONE;
        }

        /** 0, or the book's FAULT. */
        int readAll() {
            fault = 0;
            tape.rewind();
            for (int i = 0; i < Tape.MOST && fault == 0 && tape.kind != Tape.END; i++) {
                switch (tape.wordIn("office short street service coach")) {
                    case 0: readOffice(); break;
                    case 1: readShort(); break;
                    case 2: readStreet(); break;
                    case 3: readService(); break;
                    case 4: readCoach(); break;
                    default: fails(WRONG); break;
                }
                tape.advance();
            }
            return fault;
        }

        boolean fails(int kind) {
            fault = kind + 16 * tape.start;
            return false;
        }

        boolean takesName() {
            tape.advance();
            return tape.kind == Tape.NAME || fails(WRONG);
        }

        boolean takesNumber(int least, int most) {
            tape.advance();
            if (tape.kind != Tape.NUMBER) {
                return fails(WRONG);
            }
            return tape.value >= least && tape.value <= most || fails(RANGE);
        }

        boolean takesWord(String word) {
            tape.advance();
            return tape.wordIn(word) == 0 || fails(WRONG);
        }

        boolean takesEnd() {
            tape.advance();
            return tape.kind == ';' || fails(WRONG);
        }

        boolean takesOffice() {
            return takesName() && (officeNamed(tape.name) != NONE || fails(NO_OFFICE));
        }

        boolean readOffice() {
            if (offices.size() >= MOST_OFFICES) {
                return fails(MANY);
            }
            Office office = new Office();
            if (!takesName()) {
                return false;
            }
            if (officeNamed(tape.name) != NONE) {
                return fails(TOLD);
            }
            office.name = tape.name;
            office.text = new int[tape.stop - tape.start];
            tape.copyCodes(office.text, 0);
            if (!takesNumber(1, 999)) {
                return false;
            }
            if (hasCode(tape.value)) {
                return fails(TOLD);
            }
            office.code = tape.value;
            if (!takesNumber(0, 999)) {
                return false;
            }
            office.x = tape.value;
            if (!takesNumber(0, 999)) {
                return false;
            }
            office.y = tape.value;
            offices.add(office);
            return takesEnd();
        }

        boolean readShort() {
            if (shorts >= MOST_SHORTS) {
                return fails(MANY);
            }
            if (!takesName()) {
                return false;
            }
            if (shortNamed(tape.name) != NONE) {
                return fails(TOLD);
            }
            shortNames[shorts] = tape.name;
            if (!takesName()) {
                return false;
            }
            shortMeans[shorts] = tape.name;
            shorts++;
            return takesEnd();
        }

        boolean readStreet() {
            if (streets.size() >= MOST_STREETS) {
                return fails(MANY);
            }
            Street street = new Street();
            if (!readNames(street) || !takesOffice()) {
                return false;
            }
            street.office = officeNamed(tape.name);
            if (!readNumbers(street) || !takesWord("at") || !takesNumber(0, 999)) {
                return false;
            }
            street.x = tape.value;
            if (!takesNumber(0, 999)) {
                return false;
            }
            street.y = tape.value;
            tape.advance();
            street.goes = tape.wordIn("e n w s");
            if (street.goes == NONE) {
                return fails(WRONG);
            }
            if (!takesWord("walk") || !takesNumber(0, 9)) {
                return false;
            }
            street.walk = tape.value;
            streets.add(street);
            return takesEnd();
        }

        /** The NAMES and the in behind them. */
        boolean readNames(Street street) {
            int[] text = new int[MOST_NAMES * (Tape.LONGEST_NAME + 1)];
            int length = 0;
            for (int i = 0; i < MOST_NAMES; i++) {
                if (!takesName()) {
                    return false;
                }
                boolean isIn = tape.wordIn("in") == 0;
                if (isIn && i == 0) {
                    return fails(WRONG);
                }
                if (isIn) {
                    street.text = Arrays.copyOf(text, length);
                    return true;
                }
                length = tape.copyCodes(text, i == 0 ? 0 : length + 1);
            }
            street.text = Arrays.copyOf(text, length);
            return takesWord("in");
        }

        boolean readNumbers(Street street) {
            tape.advance();
            street.parity = tape.wordIn("from odd even");
            if (street.parity == NONE) {
                return fails(WRONG);
            }
            if (street.parity != 0 && !takesWord("from") || !takesNumber(1, 999)) {
                return false;
            }
            street.least = tape.value;
            if (!takesWord("to") || !takesNumber(street.least, 999)) {
                return false;
            }
            street.most = tape.value;
            return true;
        }

        boolean readService() {
            if (services.size() >= MOST_SERVICES) {
                return fails(MANY);
            }
            Service service = new Service();
            if (!takesName()) {
                return false;
            }
            if (hasServiceNamed(tape.name)) {
                return fails(TOLD);
            }
            service.name = tape.name;
            tape.advance();
            service.kind = tape.wordIn("letter parcel register");
            if (service.kind == NONE) {
                return fails(WRONG);
            }
            if (!takesWord("most") || !takesNumber(1, 4000)) {
                return false;
            }
            service.most = tape.value;
            services.add(service);
            return readRules(service);
        }

        boolean readRules(Service service) {
            for (int i = 0; i <= Service.MOST_RULES; i++) {
                tape.advance();
                if (tape.kind == ';') {
                    return true;
                }
                int kind = tape.wordIn(Service.RULES);
                if (kind == NONE) {
                    return fails(WRONG);
                }
                if (i >= Service.MOST_RULES) {
                    return fails(MANY);
                }
                if (!readRule(service, i, kind)) {
                    return false;
                }
            }
            return fails(WRONG);
        }

        boolean readRule(Service service, int i, int kind) {
            service.ruleKind[i] = kind;
            if (kind == Service.EACH && !takesNumber(1, 4000) || kind == Service.ZONE && !takesNumber(0, 9)) {
                return false;
            }
            service.part[i] = tape.value;
            if (!(kind == Service.CUT ? takesNumber(1, 99) : takesNumber(0, 9999))) {
                return false;
            }
            service.amount[i] = tape.value;
            if (kind == Service.EACH) {
                if (!takesWord("over") || !takesNumber(0, 4000)) {
                    return false;
                }
                service.over[i] = tape.value;
            }
            service.rules = i + 1;
            return true;
        }

        boolean readCoach() {
            if (coaches.size() >= MOST_COACHES) {
                return fails(MANY);
            }
            Coach coach = new Coach();
            if (!takesOffice()) {
                return false;
            }
            coach.from = officeNamed(tape.name);
            if (!takesOffice()) {
                return false;
            }
            coach.to = officeNamed(tape.name);
            if (coach.to == coach.from) {
                return fails(TOLD);
            }
            if (!readTimes(coach) || !takesWord("takes") || !takesNumber(1, 3000)) {
                return false;
            }
            coach.takes = tape.value;
            if (!takesWord("holds") || !takesNumber(1, 20)) {
                return false;
            }
            coach.holds = tape.value;
            coaches.add(coach);
            return takesEnd();
        }

        boolean readTimes(Coach coach) {
            if (!takesWord("first") || !takesNumber(0, Coach.DAY - 1)) {
                return false;
            }
            coach.first = tape.value;
            if (!takesWord("every") || !takesNumber(1, Coach.DAY)) {
                return false;
            }
            coach.every = tape.value;
            if (!takesWord("last") || !takesNumber(coach.first, Coach.DAY - 1)) {
                return false;
            }
            coach.last = tape.value;
            return true;
        }
    }

    /** Finds the PIECE that an ADDRESS means. */
    private static final class Finder {
        static final int LONGEST = 80;
        static final int MOST_WORDS = LONGEST / 2;
        static final int NEAR = 3;
        static final int TOO_FAR = 99;
        static final int SEVERAL = -2;
        static final int ZERO = 27;
        static final int BROADEST = 48;

        final int[] row;
        final int[] starts;
        final int[] ends;
        final int[][] table;
        int words;
        int codeWord;
        int door;
        int far;

        Finder() {
            row = new int[(MOST_WORDS + 1) * (Tape.LONGEST_NAME + 1) + LONGEST];
            starts = new int[MOST_WORDS + 1];
            ends = new int[MOST_WORDS + 1];
            table = new int[BROADEST][BROADEST];
        }

        int seek(Tape tape, Book book) {
            if (tape.length > LONGEST) {
                return NONE;
            }
            readWords(tape, book);
            if (words < 3 || !readDoor()) {
                return NONE;
            }
            codeWord = findCode();
            return nearest(book);
        }

        static int plainCode(char sign) {
            return sign >= 'A' && sign <= 'Z' ? sign - 'A' + 1 : Tape.codeOf(sign);
        }

        void readWords(Tape tape, Book book) {
            words = 0;
            int from = 0;
            for (int at = 0; at <= tape.length; at++) {
                if (at == tape.length || plainCode(tape.signs[at]) == 0) {
                    if (at > from && words < MOST_WORDS + 1) {
                        addWord(tape, from, at, book);
                    }
                    from = at + 1;
                }
            }
        }

        void addWord(Tape tape, int from, int to, Book book) {
            int start = words == 0 ? 0 : ends[words - 1] + 1;
            if (start > 0) {
                row[start - 1] = 0;
            }
            int at = start;
            long name = 0;
            for (int i = from; i < to; i++) {
                row[at] = plainCode(tape.signs[i]);
                name = name * 37 + row[at];
                at++;
            }
            int known = to - from <= Tape.LONGEST_NAME ? book.shortNamed(name) : NONE;
            starts[words] = start;
            ends[words] = known == NONE ? at : start + unpack(book.shortMeans[known], start);
            words++;
        }

        /** Writes a packed NAME into the row; how long it is. */
        int unpack(long name, int start) {
            int length = 0;
            for (long rest = name; rest > 0 && length < Tape.LONGEST_NAME; rest /= 37) {
                length++;
            }
            long rest = name;
            for (int i = length - 1; i >= 0; i--) {
                row[start + i] = (int) (rest % 37);
                rest /= 37;
            }
            return length;
        }

        boolean readDoor() {
            int number = 0;
            int at = starts[0];
            while (at < ends[0] && at < starts[0] + 3 && row[at] >= ZERO) {
                number = number * 10 + row[at] - ZERO;
                at++;
            }
            if (at == starts[0] || row[starts[0]] == ZERO) {
                return false;
            }
            int letter = 0;
            if (at < ends[0] && row[at] < ZERO) {
                letter = row[at];
                at++;
            }
            door = 27 * number + letter;
            return at == ends[0];
        }

        int findCode() {
            for (int i = 2; i < words; i++) {
                int at = starts[i];
                if (ends[i] - at == 3 && row[at] >= ZERO && row[at + 1] >= ZERO && row[at + 2] >= ZERO) {
                    return i;
                }
            }
            return NONE;
        }

        int nearest(Book book) {
            int best = NONE;
            int least = NEAR + 1;
            boolean isTie = false;
            for (int i = 0; i < book.streets.size(); i++) {
                Street street = book.streets.get(i);
                if (street.fits(door / 27)) {
                    int away = farOf(street, book.offices.get(street.office));
                    if (away < least) {
                        least = away;
                        best = i;
                        isTie = false;
                    } else if (away == least) {
                        isTie = true;
                    }
                }
            }
            far = least;
            return best != NONE && isTie ? SEVERAL : best;
        }

        int farOf(Street street, Office office) {
            if (codeWord != NONE) {
                int name = codeWord + 1 < words ? farness(office.text, codeWord + 1, words) : 0;
                return farness(street.text, 1, codeWord) + name + wrongDigits(office.code);
            }
            int least = TOO_FAR;
            for (int parting = 2; parting < words; parting++) {
                int away = farness(street.text, 1, parting);
                if (away < least) {
                    least = Math.min(least, away + farness(office.text, parting, words));
                }
            }
            return least;
        }

        int wrongDigits(int code) {
            int at = starts[codeWord];
            int wrong = row[at] - ZERO == code / 100 ? 0 : 1;
            wrong += row[at + 1] - ZERO == code / 10 % 10 ? 0 : 1;
            wrong += row[at + 2] - ZERO == code % 10 ? 0 : 1;
            return wrong;
        }

        /** The FARNESS of a text and some WORDS; whatever is more than NEAR may be told as more than it is. */
        int farness(int[] text, int firstWord, int behindWord) {
            int from = starts[firstWord];
            int broad = ends[behindWord - 1] - from;
            int high = text.length;
            if (Math.abs(broad - high) > NEAR || broad >= BROADEST || high >= BROADEST) {
                return TOO_FAR;
            }
            for (int j = 0; j <= broad; j++) {
                table[0][j] = j;
            }
            for (int i = 1; i <= high; i++) {
                fillLine(text, i, from, broad);
            }
            return table[high][broad];
        }

        /** Only the cells beside the diagonal are filled: the others are more than NEAR. */
        void fillLine(int[] text, int i, int from, int broad) {
            int left = Math.max(1, i - NEAR);
            int right = Math.min(broad, i + NEAR);
            table[i][left - 1] = left == 1 ? i : TOO_FAR;
            for (int j = left; j <= right; j++) {
                boolean isSame = text[i - 1] == row[from + j - 1];
                int least = table[i - 1][j - 1] + (isSame ? 0 : 1);
                least = Math.min(least, Math.min(table[i - 1][j], table[i][j - 1]) + 1);
                if (i > 1 && j > 1 && text[i - 1] == row[from + j - 2] && text[i - 2] == row[from + j - 1]) {
                    least = Math.min(least, table[i - 2][j - 2] + 1);
                }
                table[i][j] = least;
            }
            if (right < broad) {
                table[i][right + 1] = TOO_FAR;
            }
        }
    }

    /** An ITEM, and how the signs of its BARS are made and mended. */
    private static final class Item {
        static final int SIGNS = 11;
        static final int BARS = 33;
        static final int CHECKS = 4;
        static final int FIRST_CHECK = 7;
        static final int ON_SHELF = 0;
        static final int IN_BAG = 1;
        static final int IN_COACH = 2;
        static final int DELIVERED = 3;
        static final int BACK = 4;
        /** The powers of a in the field of 64, a^0 first; a^63 is 1 again. */
        static final int[] POWERS = {
            1, 2, 4, 8, 16, 32, 3, 6, 12, 24, 48, 35, 5, 10, 20, 40, 19, 38, 15, 30, 60,
            59, 53, 41, 17, 34, 7, 14, 28, 56, 51, 37, 9, 18, 36, 11, 22, 44, 27, 54, 47, 29,
            58, 55, 45, 25, 50, 39, 13, 26, 52, 43, 21, 42, 23, 46, 31, 62, 63, 61, 57, 49, 33};

        final int number;
        final int service;
        final int weight;
        final int from;
        final int kind;
        final int[] signs;
        int piece;
        int door;
        int where;
        int office;
        int coach;
        int cost;
        int sentAfter;
        int since;
        int due;

        Item(int number, int service, int kind, int weight, int from) {
            this.number = number;
            this.service = service;
            this.kind = kind;
            this.weight = weight;
            this.from = from;
            signs = new int[SIGNS];
            coach = NONE;
        }

        int told(int what) {
            switch (what) {
                case 0: return service;
                case 1: return weight;
                case 2: return from;
                case 3: return piece;
                case 4: return door;
                case 5: return where;
                case 6: return office;
                case 7: return coach;
                case 8: return cost;
                case 9: return sentAfter;
                default: return since;
            }
        }

        void comesTo(int newWhere, int newOffice, int newCoach, int clock) {
            where = newWhere;
            office = newOffice;
            coach = newCoach;
            since = clock;
        }

        /** A register is a letter, too. */
        boolean isOf(int wanted) {
            return kind == wanted || wanted == Service.LETTER && kind == Service.REGISTER;
        }

        void setSigns(int code) {
            signs[0] = service;
            signs[1] = code / 64;
            signs[2] = code % 64;
            signs[3] = number / 64;
            signs[4] = number % 64;
            signs[5] = weight / 64;
            signs[6] = weight % 64;
            int[] checks = {FIRST_CHECK, FIRST_CHECK + 1, FIRST_CHECK + 2, FIRST_CHECK + 3};
            solve(signs, checks, CHECKS, new int[CHECKS][CHECKS + 1]);
        }

        boolean hasSigns(int[] others) {
            for (int i = 0; i < SIGNS; i++) {
                if (signs[i] != others[i]) {
                    return false;
                }
            }
            return true;
        }

        static int times(int a, int b) {
            int product = 0;
            for (int i = 5; i >= 0; i--) {
                product <<= 1;
                if (product >= 64) {
                    product ^= 67;
                }
                if ((b >> i & 1) != 0) {
                    product ^= a;
                }
            }
            return product;
        }

        static int inverse(int a) {
            for (int i = 0; i < 63; i++) {
                if (POWERS[i] == a) {
                    return POWERS[(63 - i) % 63];
                }
            }
            return 0;
        }

        /** Mends the signs if they can be READ; how many were mended, or NONE. */
        static int mend(int[] signs, boolean[] unknown) {
            int[] spots = new int[CHECKS + 1];
            int[][] lines = new int[CHECKS][CHECKS + 1];
            int missing = 0;
            for (int i = 0; i < SIGNS; i++) {
                if (unknown[i]) {
                    if (missing >= CHECKS) {
                        return NONE;
                    }
                    signs[i] = 0;
                    spots[missing] = i;
                    missing++;
                }
            }
            if (solve(signs, spots, missing, lines)) {
                return missing;
            }
            if (missing <= 2 && mendOne(signs, unknown, spots, missing, lines)) {
                return missing + 1;
            }
            return missing == 0 && mendTwo(signs, unknown, spots, lines) ? 2 : NONE;
        }

        static boolean mendOne(int[] signs, boolean[] unknown, int[] spots, int missing, int[][] lines) {
            for (int i = 0; i < SIGNS; i++) {
                spots[missing] = i;
                if (!unknown[i] && solve(signs, spots, missing + 1, lines)) {
                    return true;
                }
            }
            return false;
        }

        static boolean mendTwo(int[] signs, boolean[] unknown, int[] spots, int[][] lines) {
            for (int i = 0; i < SIGNS; i++) {
                for (int j = i + 1; j < SIGNS; j++) {
                    spots[0] = i;
                    spots[1] = j;
                    if (solve(signs, spots, 2, lines)) {
                        return true;
                    }
                }
            }
            return false;
        }

        /** Changes the signs at so many spots (4 at most) so that the polynomial is 0 where it has to be, if that can be. */
        static boolean solve(int[] signs, int[] spots, int size, int[][] lines) {
            for (int j = 0; j < CHECKS; j++) {
                for (int i = 0; i < size; i++) {
                    lines[j][i] = POWERS[(j + 1) * (SIGNS - 1 - spots[i]) % 63];
                }
                lines[j][size] = valueAt(signs, POWERS[j + 1]);
            }
            for (int i = 0; i < size; i++) {
                if (!clearColumn(lines, i, size)) {
                    return false;
                }
            }
            for (int j = size; j < CHECKS; j++) {
                if (lines[j][size] != 0) {
                    return false;
                }
            }
            for (int i = 0; i < size; i++) {
                signs[spots[i]] ^= lines[i][size];
            }
            return true;
        }

        static int valueAt(int[] signs, int x) {
            int sum = 0;
            for (int i = 0; i < SIGNS; i++) {
                sum = times(sum, x) ^ signs[i];
            }
            return sum;
        }

        /** Leaves in column i a 1 in line i alone; powers of spots that differ never leave a 0 there. */
        static boolean clearColumn(int[][] lines, int i, int size) {
            int[] line = lines[i];
            if (line[i] == 0) {
                return false;
            }
            int by = inverse(line[i]);
            for (int k = i; k <= size; k++) {
                line[k] = times(line[k], by);
            }
            for (int j = 0; j < CHECKS; j++) {
                int factor = lines[j][i];
                for (int k = i; j != i && k <= size; k++) {
                    lines[j][k] ^= times(line[k], factor);
                }
            }
            return true;
        }
    }

    /** ITEMS and where they are, the CLOCK, MOVED DOORS, WAYS and walks. */
    private static final class Post {
        static final int MOST_ITEMS = 200;
        static final int MOST_MOVED = 40;
        static final int MOST_STOPS = 8;
        static final int FARTHEST = 20160;
        static final int NEVER = 2147483647;
        static final int DOORS = 27000;
        static final int LEAST_DOOR = 27;
        static final int TAKEN_IN = 0;
        static final int BAGGED = 1;
        static final int WENT = 2;
        static final int CAME = 3;
        static final int GIVEN = 4;
        static final int GIVEN_BACK = 5;
        static final int AFTER = 6;
        static final int SENT_BACK = 7;

        Book book;
        final ArrayList<Item> items;
        final ArrayList<Item> riding;
        int clock;
        int seal;
        final int[] movedFrom;
        final int[] movedTo;
        int movedDoors;
        final int[] wayEnds;
        final int[] wayBegins;
        final int[] comes;
        int wayOffice;
        int wayClock;
        final int[] stopOf;
        final int[] stopX;
        final int[] stopY;
        int stops;
        final int[] leastRest;

        Post(Tape tape) {
            book = new Book(tape);
            items = new ArrayList<Item>();
            riding = new ArrayList<Item>();
            movedFrom = new int[MOST_MOVED];
            movedTo = new int[MOST_MOVED];
            wayEnds = new int[Book.MOST_OFFICES];
            wayBegins = new int[Book.MOST_OFFICES];
            comes = new int[Book.MOST_OFFICES];
            stopOf = new int[MOST_ITEMS];
            stopX = new int[MOST_STOPS + 1];
            stopY = new int[MOST_STOPS + 1];
            leastRest = new int[MOST_STOPS << MOST_STOPS];
            seal = 7;
            wayOffice = NONE;
        }

        void begin(Book next) {
            book = next;
            items.clear();
            riding.clear();
            clock = 0;
            seal = 7;
            movedDoors = 0;
            wayOffice = NONE;
        }

        boolean hasItem(int i) {
            return i >= 0 && i < items.size();
        }

        int itemWith(int[] signs) {
            for (int i = 0; i < items.size(); i++) {
                if (items.get(i).hasSigns(signs)) {
                    return i;
                }
            }
            return NONE;
        }

        int itemsThatAre(int where) {
            int sum = 0;
            for (int i = 0; i < items.size(); i++) {
                if (items.get(i).where == where) {
                    sum++;
                }
            }
            return sum;
        }

        int allPrices() {
            int sum = 0;
            for (int i = 0; i < items.size(); i++) {
                sum += items.get(i).cost;
            }
            return sum;
        }

        int goal(Item item) {
            return book.hasPiece(item.piece) ? book.streets.get(item.piece).office : item.from;
        }

        void log(Item item, int what, int office) {
            if (item.kind == Service.REGISTER) {
                seal = (33 * seal + item.number + 8 * what + 64 * office + clock) % 65521;
            }
        }

        int takeIn(int service, int weight, int from, int piece, int door) {
            int kind = book.services.get(service).kind;
            Item item = new Item(items.size(), service, kind, weight, from);
            item.piece = piece;
            item.door = door;
            int goal = goal(item);
            item.cost = book.priceOf(service, weight, from, goal);
            item.setSigns(book.offices.get(goal).code);
            item.comesTo(Item.ON_SHELF, from, NONE, clock);
            items.add(item);
            book.offices.get(from).shelf.add(item);
            log(item, TAKEN_IN, from);
            return item.number;
        }

        /** Only minutes in which something comes or can go are stopped at: in others nothing happens. */
        int pass(int n) {
            int end = clock + n;
            for (int i = 0; i < n && clock < end; i++) {
                clock = nextMinute(end);
                letCome();
                letGo();
            }
            return clock;
        }

        int nextMinute(int end) {
            int next = end;
            for (int i = 0; i < riding.size(); i++) {
                next = Math.min(next, riding.get(i).due);
            }
            for (int i = 0; i < book.coaches.size(); i++) {
                Coach coach = book.coaches.get(i);
                if (!coach.bag.isEmpty()) {
                    next = Math.min(next, coach.timeBehind(clock));
                }
            }
            return next;
        }

        void letCome() {
            int i = 0;
            for (int left = riding.size(); left > 0; left--) {
                Item item = riding.get(i);
                if (item.due == clock) {
                    riding.remove(i);
                    item.comesTo(Item.ON_SHELF, item.office, NONE, clock);
                    book.offices.get(item.office).shelf.add(item);
                    log(item, CAME, item.office);
                } else {
                    i++;
                }
            }
        }

        void letGo() {
            for (int i = 0; i < book.coaches.size(); i++) {
                Coach coach = book.coaches.get(i);
                for (int k = 0; coach.goesAt(clock) && k < coach.holds && !coach.bag.isEmpty(); k++) {
                    Item item = coach.bag.get(0);
                    coach.bag.remove(0);
                    item.comesTo(Item.IN_COACH, coach.to, i, clock);
                    item.due = clock + coach.takes;
                    riding.add(item);
                    log(item, WENT, coach.from);
                }
            }
        }

        /** ITEMS that went together lie side by side; a coach's later ones come later. */
        int coachesUnderWay() {
            int sum = 0;
            for (int i = 0; i < riding.size(); i++) {
                Item item = riding.get(i);
                if (i == 0 || riding.get(i - 1).coach != item.coach || riding.get(i - 1).due != item.due) {
                    sum++;
                }
            }
            return sum;
        }

        int wayComes(int from, int to) {
            workOutWays(from);
            return wayBegins[to] == NONE ? NONE : wayEnds[to];
        }

        /** Kept until another office or minute is asked for: a run may ask very often for the same. */
        void workOutWays(int from) {
            if (wayOffice == from && wayClock == clock) {
                return;
            }
            wayOffice = from;
            wayClock = clock;
            Arrays.fill(wayEnds, NEVER);
            Arrays.fill(wayBegins, NONE);
            for (int i = 0; i < book.coaches.size(); i++) {
                if (book.coaches.get(i).from == from) {
                    rideFirst(book.coaches.get(i));
                    keepEarlier(i);
                }
            }
            wayBegins[from] = NONE;
        }

        /** Each first coach is tried by itself: one that comes later ahead may still reach the same coach behind. */
        void rideFirst(Coach first) {
            Arrays.fill(comes, NEVER);
            comes[first.to] = first.timeBehind(clock) + first.takes;
            boolean isNew = true;
            for (int round = 0; round < Book.MOST_OFFICES && isNew; round++) {
                isNew = false;
                for (int i = 0; i < book.coaches.size(); i++) {
                    Coach coach = book.coaches.get(i);
                    if (comes[coach.from] <= clock + FARTHEST) {
                        int time = coach.timeBehind(comes[coach.from]) + coach.takes;
                        if (time < comes[coach.to]) {
                            comes[coach.to] = time;
                            isNew = true;
                        }
                    }
                }
            }
        }

        void keepEarlier(int coach) {
            for (int i = 0; i < Book.MOST_OFFICES; i++) {
                if (comes[i] < wayEnds[i] && comes[i] <= clock + FARTHEST) {
                    wayEnds[i] = comes[i];
                    wayBegins[i] = coach;
                }
            }
        }

        int sortShelf(int office) {
            ArrayList<Item> shelf = book.offices.get(office).shelf;
            workOutWays(office);
            int sum = 0;
            int at = 0;
            for (int left = shelf.size(); left > 0; left--) {
                Item item = shelf.get(at);
                int coach = wayBegins[goal(item)];
                if (coach == NONE) {
                    at++;
                } else {
                    putInBag(item, coach);
                    sum++;
                }
            }
            return sum;
        }

        void takeFromShelf(Item item) {
            ArrayList<Item> shelf = book.offices.get(item.office).shelf;
            for (int i = 0; i < shelf.size(); i++) {
                if (shelf.get(i) == item) {
                    shelf.remove(i);
                    return;
                }
            }
        }

        void putInBag(Item item, int coach) {
            takeFromShelf(item);
            Coach into = book.coaches.get(coach);
            item.comesTo(Item.IN_BAG, into.from, coach, clock);
            into.bag.add(item);
            log(item, BAGGED, into.from);
        }

        static int doorKey(int piece, int door) {
            return piece * DOORS + door;
        }

        int movedIndex(int key) {
            for (int i = 0; i < movedDoors; i++) {
                if (movedFrom[i] == key) {
                    return i;
                }
            }
            return NONE;
        }

        boolean tellMoved(int piece, int door, int to) {
            if (door < LEAST_DOOR || door >= DOORS) {
                return false;
            }
            int key = doorKey(piece, door);
            int index = movedIndex(key);
            if (index == NONE) {
                if (movedDoors >= MOST_MOVED) {
                    return false;
                }
                index = movedDoors;
                movedDoors++;
            }
            movedFrom[index] = key;
            movedTo[index] = to;
            return true;
        }

        void sendOn(Item item, int to) {
            if (to == NONE || item.sentAfter >= 2) {
                item.piece = NONE;
                log(item, SENT_BACK, item.office);
                return;
            }
            item.piece = to / DOORS;
            item.door = to % DOORS;
            item.sentAfter++;
            log(item, AFTER, item.office);
        }

        int giveBack(int office) {
            ArrayList<Item> shelf = book.offices.get(office).shelf;
            int sum = 0;
            int at = 0;
            for (int left = shelf.size(); left > 0; left--) {
                Item item = shelf.get(at);
                if (item.piece == NONE && item.from == office) {
                    shelf.remove(at);
                    item.comesTo(Item.BACK, office, NONE, clock);
                    log(item, GIVEN_BACK, office);
                    sum++;
                } else {
                    at++;
                }
            }
            return sum;
        }

        int walkOut(int office, int walk) {
            stops = 0;
            ArrayList<Item> shelf = book.offices.get(office).shelf;
            for (int i = 0; i < shelf.size(); i++) {
                Item item = shelf.get(i);
                stopOf[item.number] = isOfWalk(item, office, walk) ? stopFor(item) : NONE;
            }
            if (stops == 0) {
                return NONE;
            }
            stopX[stops] = book.offices.get(office).x;
            stopY[stops] = book.offices.get(office).y;
            workOutWalk();
            return goWalk(shelf, office);
        }

        boolean isOfWalk(Item item, int office, int walk) {
            if (!book.hasPiece(item.piece)) {
                return false;
            }
            Street street = book.streets.get(item.piece);
            return street.office == office && street.walk == walk;
        }

        /** The stop of an ITEM; NONE if it is sent on instead, or has to stay. */
        int stopFor(Item item) {
            int index = movedIndex(doorKey(item.piece, item.door));
            if (index != NONE) {
                sendOn(item, movedTo[index]);
                return NONE;
            }
            Street street = book.streets.get(item.piece);
            int x = street.doorX(item.door / 27);
            int y = street.doorY(item.door / 27);
            for (int i = 0; i < stops; i++) {
                if (stopX[i] == x && stopY[i] == y) {
                    return i;
                }
            }
            if (stops >= MOST_STOPS) {
                return NONE;
            }
            stopX[stops] = x;
            stopY[stops] = y;
            stops++;
            return stops - 1;
        }

        int between(int a, int b) {
            return Math.abs(stopX[a] - stopX[b]) + Math.abs(stopY[a] - stopY[b]);
        }

        /** For each set of stops and each stop outside it: the least walk from that through all of the set to the office. */
        void workOutWalk() {
            for (int set = 0; set < 1 << stops; set++) {
                for (int at = 0; at < stops; at++) {
                    if ((set >> at & 1) == 0) {
                        leastRest[set * MOST_STOPS + at] = set == 0 ? between(at, stops) : leastFrom(at, set);
                    }
                }
            }
        }

        int leastFrom(int at, int set) {
            int least = NEVER;
            for (int next = 0; next < stops; next++) {
                if ((set >> next & 1) != 0) {
                    least = Math.min(least, restBy(at, next, set));
                }
            }
            return least;
        }

        int restBy(int at, int next, int set) {
            return between(at, next) + leastRest[(set & ~(1 << next)) * MOST_STOPS + next];
        }

        int goWalk(ArrayList<Item> shelf, int office) {
            int set = (1 << stops) - 1;
            int length = leastFrom(stops, set);
            int at = stops;
            for (int i = 0; i < stops; i++) {
                int least = leastFrom(at, set);
                int next = 0;
                while (next < stops && ((set >> next & 1) == 0 || restBy(at, next, set) != least)) {
                    next++;
                }
                deliverAt(next, shelf, office);
                set &= ~(1 << next);
                at = next;
            }
            return length;
        }

        void deliverAt(int stop, ArrayList<Item> shelf, int office) {
            int at = 0;
            for (int left = shelf.size(); left > 0; left--) {
                Item item = shelf.get(at);
                if (stopOf[item.number] == stop) {
                    shelf.remove(at);
                    item.comesTo(Item.DELIVERED, office, NONE, clock);
                    log(item, GIVEN, office);
                } else {
                    at++;
                }
            }
        }
    }

    /** A programme as the row of its TOKENS; it is looked through once, so that a run need not doubt its form. */
    private static final class Script {
        static final int REG = 4;
        static final int HAND = 5;
        static final int WORD = 128;
        static final int MAKE = WORD;
        static final int DROP = WORD + 1;
        static final int SAME = WORD + 2;
        static final int PUT = WORD + 3;
        static final int LAY = WORD + 4;
        static final int SLIDE = WORD + 5;
        static final int BAG = WORD + 6;
        static final int REFUSE = WORD + 7;
        static final int STOP = WORD + 8;
        static final int IF = WORD + 9;
        static final int ELSE = WORD + 10;
        static final int WHILE = WORD + 11;
        static final int TRY = WORD + 12;
        static final int ON = WORD + 13;
        static final int ALWAYS = WORD + 14;
        static final int LEN = WORD + 15;
        static final int SORT = WORD + 16;
        static final int AT = WORD + 17;
        static final int CODE = WORD + 18;
        static final int WEIGHT = WORD + 19;
        static final int KIND = WORD + 20;
        static final int NEXT = WORD + 21;
        static final int IS = WORD + 22;
        static final int MANY = WORD + 23;
        static final int HERE = WORD + 24;
        static final int TIME = WORD + 25;
        static final int NO_ITEM = WORD + 26;
        static final int SHELF = WORD + 27;
        static final int ITEM = WORD + 28;
        static final int LETTER = WORD + 29;
        static final int REGISTER = WORD + 31;
        static final int TRUTHS = WORD + 32;
        static final int REGISTERS = WORD + 43;
        /** In one text, since the rules leave no joining of texts: their order is that of the numbers above. */
        static final String WORDS = "make drop same put lay slide bag refuse stop if else while try on always len sort at code weight kind next is many here time none shelf item letter parcel register truths bytes signs shorts ints longs floats doubles items letters parcels registers";
        static final int WRONG = 1;
        static final int RANGE = 4;
        static final int DEEP = 5;
        static final int DEEPEST = 20;

        final int[] kinds;
        final int[] values;
        int size;
        int kind;
        int fault;
        Tape tape;

        Script() {
            kinds = new int[Tape.MOST + 1];
            values = new int[Tape.MOST + 1];
        }

        int kindAt(int at) {
            return at >= 0 && at < size ? kinds[at] : Tape.END;
        }

        int valueAt(int at) {
            return at >= 0 && at < size ? values[at] : 0;
        }

        /** 0, or the programme's FAULT. */
        int readAll(Tape from) {
            tape = from;
            size = 0;
            fault = 0;
            tape.rewind();
            look();
            for (int i = 0; i < Tape.MOST && kind != Tape.END; i++) {
                if (!readStatement(0)) {
                    return fault;
                }
            }
            return 0;
        }

        boolean fails(int what) {
            fault = what + 16 * tape.start;
            return false;
        }

        void look() {
            kind = tape.kind;
            if (kind != Tape.NAME) {
                return;
            }
            int word = tape.wordIn(WORDS);
            if (word != NONE) {
                kind = WORD + word;
            } else if (tape.stop - tape.start == 2) {
                char letter = tape.signs[tape.start];
                int digit = tape.signs[tape.start + 1] - '0';
                boolean isReg = letter == 'r' && digit >= 0 && digit <= 9;
                boolean isHand = letter == 'x' && digit >= 0 && digit <= 3;
                tape.value = isReg || isHand ? digit : 0;
                kind = isReg ? REG : isHand ? HAND : Tape.NAME;
            }
        }

        boolean push() {
            if (size >= kinds.length) {
                return fails(WRONG);
            }
            kinds[size] = kind;
            values[size] = tape.value;
            size++;
            tape.advance();
            look();
            return true;
        }

        boolean takes(int wanted) {
            return kind == wanted ? push() : fails(WRONG);
        }

        private boolean readStatement(int depth) {
            int first = kind;
            switch (first) {
                case REG:
                    return push() && takes('=') && readExpression(depth) && takes(';');
                case HAND:
                    return push() && takes('=') && readItem(depth) && takes(';');
                case MAKE:
                    return push() && readTray(depth) && readRow() && readExpression(depth) && takes(';');
                case DROP:
                    return push() && readTray(depth) && takes(';');
                case SAME:
                    return push() && readTray(depth) && readTray(depth) && takes(';');
                case PUT:
                    return push() && readSpot(depth) && readExpression(depth) && takes(';');
                case LAY:
                    return push() && readSpot(depth) && readItem(depth) && takes(';');
                case SLIDE:
                    return push() && readSlide(depth);
                case BAG:
                    return push() && readItem(depth) && takes(',') && readExpression(depth) && takes(';');
                case REFUSE:
                    return push() && readExpression(depth) && takes(';');
                case STOP:
                    return push() && takes(';');
                case IF:
                    return push() && readExpression(depth) && readBlock(depth)
                        && (kind != ELSE || push() && readBlock(depth));
                case WHILE:
                    return push() && readExpression(depth) && readBlock(depth);
                case TRY:
                    return push() && readTry(depth);
                default:
                    return fails(WRONG);
            }
        }

        boolean readSlide(int depth) {
            return readTray(depth) && readExpression(depth) && takes(',')
                && readTray(depth) && readExpression(depth) && takes(',')
                && readExpression(depth) && takes(';');
        }

        private boolean readTry(int depth) {
            if (!readBlock(depth)) {
                return false;
            }
            for (int i = 0; i < Tape.MOST && kind == ON; i++) {
                if (!push() || !readRefusal() || !readBlock(depth)) {
                    return false;
                }
            }
            return kind != ALWAYS || push() && readBlock(depth);
        }

        boolean readRefusal() {
            if (kind == Tape.NUMBER && tape.value > 9) {
                return fails(RANGE);
            }
            return takes(Tape.NUMBER);
        }

        /** The opening sign's value is the place of the closing one, for runs that pass the BLOCK by. */
        private boolean readBlock(int depth) {
            if (kind != '{') {
                return fails(WRONG);
            }
            if (depth >= DEEPEST) {
                return fails(DEEP);
            }
            int open = size;
            push();
            for (int i = 0; i < Tape.MOST && kind != '}'; i++) {
                if (!readStatement(depth + 1)) {
                    return false;
                }
            }
            values[open] = size;
            return takes('}');
        }

        boolean readRow() {
            return kind >= TRUTHS && kind <= REGISTERS ? push() : fails(WRONG);
        }

        private boolean readTray(int depth) {
            return takes('@') && readUnit(depth);
        }

        private boolean readSpot(int depth) {
            return readTray(depth) && takes('[') && readExpression(depth) && takes(']');
        }

        private boolean readExpression(int depth) {
            if (!readSum(depth)) {
                return false;
            }
            return kind != '<' && kind != '=' || push() && readSum(depth);
        }

        private boolean readSum(int depth) {
            if (!readProduct(depth)) {
                return false;
            }
            for (int i = 0; i < Tape.MOST && (kind == '+' || kind == '-'); i++) {
                if (!push() || !readProduct(depth)) {
                    return false;
                }
            }
            return true;
        }

        private boolean readProduct(int depth) {
            if (!readUnit(depth)) {
                return false;
            }
            for (int i = 0; i < Tape.MOST && (kind == '*' || kind == '/' || kind == '%'); i++) {
                if (!push() || !readUnit(depth)) {
                    return false;
                }
            }
            return true;
        }

        boolean beginsUnit() {
            return kind == Tape.NUMBER || kind == REG || kind == '(' || kind == '-' || kind >= LEN && kind <= TIME;
        }

        private boolean readUnit(int depth) {
            if (!beginsUnit()) {
                return fails(WRONG);
            }
            if (depth >= DEEPEST) {
                return fails(DEEP);
            }
            int first = kind;
            push();
            switch (first) {
                case '(':
                    return readExpression(depth + 1) && takes(')');
                case '-':
                    return readUnit(depth + 1);
                case LEN: case SORT:
                    return readTray(depth + 1);
                case AT:
                    return readSpot(depth + 1);
                case CODE: case WEIGHT: case KIND: case NEXT: case IS:
                    return readItem(depth + 1);
                default:
                    return true;
            }
        }

        private boolean readItem(int depth) {
            if (kind != HAND && (kind < NO_ITEM || kind > REGISTER)) {
                return fails(WRONG);
            }
            if (depth >= DEEPEST) {
                return fails(DEEP);
            }
            int first = kind;
            push();
            switch (first) {
                case HAND: case NO_ITEM:
                    return true;
                case SHELF:
                    return readUnit(depth + 1);
                case ITEM:
                    return readSpot(depth + 1);
                default:
                    return readItem(depth + 1);
            }
        }
    }

    /** Runs a programme from its TOKENS. Whatever ends a run early is kept in "ended", and all that is open leaves off then. */
    private static final class Machine {
        static final int MOST_STEPS = 20000;
        static final int MOST_STEPS_IN_ALL = 200000;
        static final int MOST_PLACES = 2000;
        static final int MOST_PLACES_IN_ALL = 200000;
        static final int MOST_REFUSALS = 4000;
        static final int TRAYS = 12;
        static final int GOING = 0;
        static final int NOTHING = 1;
        static final int WRONG_KIND = 2;
        static final int NO_PLACE = 3;
        static final int SIZE = 4;
        static final int STORE = 5;
        static final int ZERO = 6;
        static final int ELSEWHERE = 7;
        static final int NOT_FROM_HERE = 8;
        static final int OWN = 9;
        static final int CUT = 10;
        static final int FULL = 11;
        static final int STOPPED = 12;
        static final int FLOATS = 7;
        static final int DOUBLES = 8;
        static final int ITEMS = 9;
        static final int REG_OF_REFUSAL = 9;

        final Post post;
        final long[] numbers;
        final int[] hands;
        final int[] trayRow;
        final int[] trayFrom;
        final int[] traySize;
        final int[] trayMake;
        final long[] arena;
        Script script;
        int at;
        int here;
        int ended;
        long own;
        int steps;
        int limit;
        int places;
        int makes;
        int allSteps;
        int allPlaces;
        int allRefusals;

        Machine(Post room) {
            post = room;
            numbers = new long[10];
            hands = new int[] {NONE, NONE, NONE, NONE};
            trayRow = new int[TRAYS];
            trayFrom = new int[TRAYS];
            traySize = new int[TRAYS];
            trayMake = new int[TRAYS];
            arena = new long[MOST_PLACES];
        }

        void begin() {
            Arrays.fill(numbers, 0);
            Arrays.fill(hands, NONE);
            Arrays.fill(trayRow, 0);
            at = 0;
            ended = GOING;
            own = 0;
            steps = 0;
            places = 0;
            makes = 0;
        }

        int perform(Script told, int office, int mostSteps) {
            begin();
            script = told;
            here = office;
            limit = mostSteps;
            for (int i = 0; i <= MOST_STEPS && ended == GOING && at < script.size; i++) {
                doStatement(0);
            }
            return ended == STOPPED ? 0 : ended;
        }

        int toldOfTray(int t, int what) {
            if (what == 0) {
                return trayRow[t];
            }
            if (trayRow[t] == 0 || what != 1 && what != 2) {
                return NONE;
            }
            if (what == 1) {
                return traySize[t];
            }
            for (int i = 0; i < t; i++) {
                if (trayRow[i] != 0 && trayMake[i] == trayMake[t]) {
                    return i;
                }
            }
            return t;
        }

        boolean isGoing() {
            return ended == GOING;
        }

        int peek() {
            return script.kindAt(at);
        }

        boolean begins() {
            if (steps >= limit || allSteps >= MOST_STEPS_IN_ALL) {
                ended = CUT;
                return false;
            }
            steps++;
            allSteps++;
            return true;
        }

        void refuse(int what) {
            if (allRefusals >= MOST_REFUSALS) {
                ended = FULL;
                return;
            }
            allRefusals++;
            ended = what;
        }

        private void doStatement(int depth) {
            int kind = peek();
            if (kind != Script.WHILE && !begins()) {
                return;
            }
            int value = script.valueAt(at);
            at++;
            switch (kind) {
                case Script.REG: setNumber(value, depth); break;
                case Script.HAND: setHand(value, depth); break;
                case Script.MAKE: make(depth); break;
                case Script.DROP: drop(depth); break;
                case Script.SAME: same(depth); break;
                case Script.PUT: put(depth); break;
                case Script.LAY: lay(depth); break;
                case Script.SLIDE: slide(depth); break;
                case Script.BAG: bagItem(depth); break;
                case Script.REFUSE: refuseOwn(depth); break;
                case Script.STOP: ended = STOPPED; break;
                case Script.IF: choose(depth); break;
                case Script.WHILE: repeat(depth); break;
                default: attempt(depth); break;
            }
        }

        void setNumber(int k, int depth) {
            at++;
            long told = expression(depth);
            at++;
            if (isGoing()) {
                numbers[k] = told;
            }
        }

        void setHand(int k, int depth) {
            at++;
            int told = itemTold(depth);
            at++;
            if (isGoing()) {
                hands[k] = told;
            }
        }

        void make(int depth) {
            int t = trayTold(depth);
            if (!isGoing()) {
                return;
            }
            int row = peek() - Script.TRUTHS + 1;
            at++;
            long size = expression(depth);
            at++;
            if (!isGoing()) {
                return;
            }
            if (size < 0) {
                refuse(SIZE);
            } else if (size > MOST_PLACES - places || size > MOST_PLACES_IN_ALL - allPlaces) {
                ended = FULL;
            } else {
                newRow(t, row, (int) size);
            }
        }

        void newRow(int t, int row, int size) {
            trayRow[t] = row;
            trayFrom[t] = places;
            traySize[t] = size;
            trayMake[t] = makes;
            for (int i = 0; i < size; i++) {
                arena[places + i] = row >= ITEMS ? NONE : 0;
            }
            places += size;
            allPlaces += size;
            makes++;
        }

        void drop(int depth) {
            int t = trayTold(depth);
            at++;
            if (isGoing()) {
                trayRow[t] = 0;
            }
        }

        void same(int depth) {
            int t = trayTold(depth);
            if (!isGoing()) {
                return;
            }
            int other = trayTold(depth);
            at++;
            if (isGoing()) {
                trayRow[t] = trayRow[other];
                trayFrom[t] = trayFrom[other];
                traySize[t] = traySize[other];
                trayMake[t] = trayMake[other];
            }
        }

        /** The number in the brackets behind a TRAY. */
        private long spotTold(int depth) {
            at++;
            long spot = expression(depth);
            at++;
            return spot;
        }

        /** Where in the arena a place of a TRAY is; refused, and NONE, if there is none such. */
        int arenaPlace(int t, long spot, boolean ofItems) {
            if (trayRow[t] == 0) {
                refuse(NOTHING);
            } else if (trayRow[t] >= ITEMS != ofItems) {
                refuse(WRONG_KIND);
            } else if (spot < 0 || spot >= traySize[t]) {
                refuse(NO_PLACE);
            } else {
                return trayFrom[t] + (int) spot;
            }
            return NONE;
        }

        void put(int depth) {
            int t = trayTold(depth);
            if (!isGoing()) {
                return;
            }
            long spot = spotTold(depth);
            if (!isGoing()) {
                return;
            }
            long told = expression(depth);
            at++;
            if (!isGoing()) {
                return;
            }
            int where = arenaPlace(t, spot, false);
            if (where != NONE) {
                arena[where] = kept(trayRow[t], told);
            }
        }

        /** What a row of numbers keeps; floats and doubles are kept as at tells them, since nothing else sees them. */
        static long kept(int row, long told) {
            switch (row) {
                case 1: return told == 0 ? 0 : 1;
                case 2: return (byte) told;
                case 3: return told & 65535;
                case 4: return (short) told;
                case 5: return (int) told;
                case FLOATS: return (long) (float) told;
                case DOUBLES: return (long) (double) told;
                default: return told;
            }
        }

        boolean fitsRow(int row, long item) {
            return item == NONE || row == ITEMS || post.items.get((int) item).isOf(row - ITEMS - 1);
        }

        void lay(int depth) {
            int t = trayTold(depth);
            if (!isGoing()) {
                return;
            }
            long spot = spotTold(depth);
            if (!isGoing()) {
                return;
            }
            int told = itemTold(depth);
            at++;
            if (!isGoing()) {
                return;
            }
            int where = arenaPlace(t, spot, true);
            if (where == NONE) {
                return;
            }
            if (!fitsRow(trayRow[t], told)) {
                refuse(STORE);
                return;
            }
            arena[where] = told;
        }

        void slide(int depth) {
            int from = trayTold(depth);
            long fromSpot = isGoing() ? expression(depth) : 0;
            at++;
            int to = isGoing() ? trayTold(depth) : 0;
            long toSpot = isGoing() ? expression(depth) : 0;
            at++;
            long many = isGoing() ? expression(depth) : 0;
            at++;
            if (!isGoing()) {
                return;
            }
            if (trayRow[from] == 0 || trayRow[to] == 0) {
                refuse(NOTHING);
            } else if (trayRow[from] != trayRow[to] && (trayRow[from] < ITEMS || trayRow[to] < ITEMS)) {
                refuse(WRONG_KIND);
            } else if (!hasPart(from, fromSpot, many) || !hasPart(to, toSpot, many)) {
                refuse(NO_PLACE);
            } else {
                slideRow(trayFrom[from] + (int) fromSpot, trayFrom[to] + (int) toSpot, (int) many, trayRow[to]);
            }
        }

        boolean hasPart(int t, long spot, long many) {
            return spot >= 0 && many >= 0 && many <= traySize[t] && spot <= traySize[t] - many;
        }

        void slideRow(int from, int to, int many, int row) {
            int fitting = many;
            if (row > ITEMS) {
                fitting = 0;
                while (fitting < many && fitsRow(row, arena[from + fitting])) {
                    fitting++;
                }
            }
            System.arraycopy(arena, from, arena, to, fitting);
            if (fitting < many) {
                refuse(STORE);
            }
        }

        void bagItem(int depth) {
            int told = itemTold(depth);
            at++;
            if (!isGoing()) {
                return;
            }
            long coach = expression(depth);
            at++;
            if (!isGoing()) {
                return;
            }
            if (told == NONE) {
                refuse(NOTHING);
            } else if (coach < 0 || coach >= post.book.coaches.size()) {
                refuse(NO_PLACE);
            } else if (post.items.get(told).where != Item.ON_SHELF || post.items.get(told).office != here) {
                refuse(ELSEWHERE);
            } else if (post.book.coaches.get((int) coach).from != here) {
                refuse(NOT_FROM_HERE);
            } else {
                post.putInBag(post.items.get(told), (int) coach);
            }
        }

        void refuseOwn(int depth) {
            long told = expression(depth);
            if (isGoing()) {
                own = told;
                refuse(OWN);
            }
        }

        /** No programme that was read is deeper than this lets it be. */
        boolean isTooDeep(int depth) {
            if (depth >= Script.DEEPEST) {
                ended = CUT;
            }
            return depth >= Script.DEEPEST;
        }

        /** Whatever ends it, the place behind the BLOCK is next: what is done behind a try is found from there. */
        private void doBlock(int depth) {
            int close = script.valueAt(at);
            at++;
            boolean isOpen = !isTooDeep(depth);
            for (int i = 0; i < Tape.MOST && isOpen && isGoing() && at < close; i++) {
                doStatement(depth + 1);
            }
            at = close + 1;
        }

        void passBlock() {
            at = script.valueAt(at) + 1;
        }

        private void choose(int depth) {
            boolean isSo = expression(depth) != 0;
            if (!isGoing()) {
                return;
            }
            if (isSo) {
                doBlock(depth);
            } else {
                passBlock();
            }
            if (!isGoing() || peek() != Script.ELSE) {
                return;
            }
            at++;
            if (isSo) {
                passBlock();
            } else {
                doBlock(depth);
            }
        }

        private void repeat(int depth) {
            int look = at;
            for (int i = 0; i <= MOST_STEPS; i++) {
                at = look;
                if (!begins()) {
                    return;
                }
                boolean isSo = expression(depth) != 0;
                if (!isGoing()) {
                    return;
                }
                if (!isSo) {
                    passBlock();
                    return;
                }
                doBlock(depth);
                if (!isGoing()) {
                    return;
                }
            }
        }

        private void attempt(int depth) {
            doBlock(depth);
            int refusal = ended;
            boolean isRefused = refusal >= NOTHING && refusal <= OWN;
            for (int i = 0; i < Tape.MOST && peek() == Script.ON; i++) {
                int which = script.valueAt(at + 1);
                at += 2;
                if (isRefused && (which == refusal || which == 0)) {
                    isRefused = false;
                    numbers[REG_OF_REFUSAL] = refusal == OWN ? own : refusal;
                    ended = GOING;
                    doBlock(depth);
                } else {
                    passBlock();
                }
            }
            if (peek() == Script.ALWAYS && ended != CUT && ended != FULL) {
                at++;
                doAlways(depth);
            }
        }

        private void doAlways(int depth) {
            int pending = ended;
            long pendingOwn = own;
            ended = GOING;
            doBlock(depth);
            if (isGoing()) {
                ended = pending;
                own = pendingOwn;
            }
        }

        private long expression(int depth) {
            long left = sum(depth);
            int sign = peek();
            if (!isGoing() || sign != '<' && sign != '=') {
                return left;
            }
            at++;
            long right = sum(depth);
            boolean isSo = sign == '<' ? left < right : left == right;
            return isSo ? 1 : 0;
        }

        private long sum(int depth) {
            long total = product(depth);
            for (int i = 0; i < Tape.MOST && isGoing() && (peek() == '+' || peek() == '-'); i++) {
                boolean isLess = peek() == '-';
                at++;
                long more = product(depth);
                total = isLess ? total - more : total + more;
            }
            return total;
        }

        private long product(int depth) {
            long total = unit(depth);
            for (int i = 0; i < Tape.MOST && isGoing(); i++) {
                int sign = peek();
                if (sign != '*' && sign != '/' && sign != '%') {
                    return total;
                }
                at++;
                long by = unit(depth);
                if (isGoing() && sign != '*' && by == 0) {
                    refuse(ZERO);
                }
                if (isGoing()) {
                    total = sign == '*' ? total * by : sign == '/' ? total / by : total % by;
                }
            }
            return total;
        }

        private long unit(int depth) {
            if (isTooDeep(depth)) {
                return 0;
            }
            int kind = peek();
            int value = script.valueAt(at);
            at++;
            switch (kind) {
                case Tape.NUMBER: return value;
                case Script.REG: return numbers[value];
                case '(': return inBrackets(depth + 1);
                case '-': return -unit(depth + 1);
                case Script.LEN: return lengthTold(depth + 1);
                case Script.SORT: return rowTold(depth + 1);
                case Script.AT: return numberTold(depth + 1);
                case Script.MANY: return post.book.offices.get(here).shelf.size();
                case Script.HERE: return here;
                case Script.TIME: return post.clock;
                default: return ofItem(kind, itemTold(depth + 1));
            }
        }

        private long inBrackets(int depth) {
            long told = expression(depth);
            at++;
            return told;
        }

        /** A TRAY's number; 0, and refused, if it is none. */
        private int trayTold(int depth) {
            at++;
            long t = unit(depth);
            if (isGoing() && (t < 0 || t >= TRAYS)) {
                refuse(NO_PLACE);
            }
            return isGoing() ? (int) t : 0;
        }

        private long lengthTold(int depth) {
            int t = trayTold(depth);
            if (!isGoing()) {
                return 0;
            }
            if (trayRow[t] == 0) {
                refuse(NOTHING);
                return 0;
            }
            return traySize[t];
        }

        private long rowTold(int depth) {
            int t = trayTold(depth);
            return isGoing() ? trayRow[t] : 0;
        }

        private long numberTold(int depth) {
            int where = whereTold(depth, false);
            return where == NONE ? 0 : arena[where];
        }

        private int whereTold(int depth, boolean ofItems) {
            int t = trayTold(depth);
            if (!isGoing()) {
                return NONE;
            }
            long spot = spotTold(depth);
            return isGoing() ? arenaPlace(t, spot, ofItems) : NONE;
        }

        long ofItem(int kind, int told) {
            if (!isGoing()) {
                return 0;
            }
            if (kind == Script.IS) {
                return told == NONE ? 0 : 1;
            }
            if (told == NONE) {
                refuse(NOTHING);
                return 0;
            }
            Item item = post.items.get(told);
            switch (kind) {
                case Script.CODE: return post.book.offices.get(post.goal(item)).code;
                case Script.WEIGHT: return item.weight;
                case Script.KIND: return item.service;
                default: break;
            }
            if (!begins()) {
                return 0;
            }
            post.workOutWays(here);
            return post.wayBegins[post.goal(item)];
        }

        /** An ITEM's number, or NONE; NONE, too, if it is refused. */
        private int itemTold(int depth) {
            if (isTooDeep(depth)) {
                return NONE;
            }
            int kind = peek();
            int value = script.valueAt(at);
            at++;
            switch (kind) {
                case Script.HAND: return hands[value];
                case Script.NO_ITEM: return NONE;
                case Script.SHELF: return onShelf(unit(depth + 1));
                case Script.ITEM: return inRow(depth + 1);
                default: return ofSort(kind - Script.LETTER, itemTold(depth + 1));
            }
        }

        int onShelf(long spot) {
            if (!isGoing()) {
                return NONE;
            }
            ArrayList<Item> shelf = post.book.offices.get(here).shelf;
            if (spot < 0 || spot >= shelf.size()) {
                refuse(NO_PLACE);
                return NONE;
            }
            return shelf.get((int) spot).number;
        }

        private int inRow(int depth) {
            int where = whereTold(depth, true);
            return where == NONE ? NONE : (int) arena[where];
        }

        int ofSort(int kind, int told) {
            if (isGoing() && told != NONE && !post.items.get(told).isOf(kind)) {
                refuse(WRONG_KIND);
            }
            return isGoing() ? told : NONE;
        }
    }
}
