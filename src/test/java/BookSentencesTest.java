/** Terms 1 (TEXTS), of books: what there may be of each sort, FAULTS, and what a book takes the place of; promise 3. */
public final class BookSentencesTest {
    private static final String TWO = "office a 1 0 0;office b 2 0 0;";
    private static final String STREET = " in a from 1 to 9 at 1 1 e walk 0;";
    private static final String TIMES = " first 0 every 5 last 900 takes 5 holds 5;";

    public static void main(String[] args) {
        mostOffices();
        mostShorts();
        mostStreets();
        mostServices();
        mostRules();
        mostCoaches();
        numbered();
        faultPlaces();
        leftmost();
        least();
        none();
        noOffice();
        told();
        notToldTwice();
        range();
        oneTooMany();
        takesThePlace();
        allRunsSteps();
        allRunsPlaces();
        allRunsRefusals();
        allStays();
        answers();
        Due.end("BookSentencesTest");
    }

    private static void good(String text) {
        Room room = new Room();
        Due.is("book " + text, Due.book(room, text), 0);
    }

    private static void fault(int kind, String marked) {
        Due.bookFault(kind, marked);
    }

    /** # is the statement's number, from 1 on. */
    private static String some(int many, String statement) {
        StringBuilder text = new StringBuilder();
        for (int i = 1; i <= many; i++) {
            text.append(statement.replace("#", "" + i));
        }
        return text.toString();
    }

    private static void mostOffices() {
        Due.holds("Terms 1, TEXTS", "At most 16 offices,");
        String offices = some(16, "office a# # 0 0;");
        Due.is("offices", Due.roomOf(offices).count(0), 16);
        Due.is("offices", Due.roomOf(some(15, "office a# # 0 0;")).count(0), 15);
        fault(5, offices + "|office b 17 0 0;");
        fault(5, offices + "short a b;|office");
    }

    private static void mostShorts() {
        Due.holds("Terms 1, TEXTS", "20 shorts,");
        String shorts = "office zed 1 0 0;street z9 in zed from 1 to 9 at 0 0 e walk 0;" + some(20, "short s# z9;");
        Room room = Due.roomOf(shorts);
        Due.is("the first of 20", Due.find(room, "1 s1 zed"), 0);
        Due.is("as near as can be", room.found(1), 0);
        Due.is("the last of 20", Due.find(room, "1 s20 zed"), 0);
        Due.is("as near as can be", room.found(1), 0);
        fault(5, shorts + "|short s21 z;");
        fault(5, shorts + "|short");
    }

    private static void mostStreets() {
        Due.holds("Terms 1, TEXTS", "60 streets, that are PIECES,");
        String streets = TWO + some(60, "street s#" + STREET);
        Room room = Due.roomOf(streets);
        Due.is("PIECES", room.count(1), 60);
        Due.is("the first", Due.find(room, "1 s1 a"), 0);
        Due.is("the last", Due.find(room, "1 s60 a"), 59);
        fault(5, streets + "|street s61" + STREET);
        fault(5, streets + "|street");
    }

    private static void mostServices() {
        Due.holds("Terms 1, TEXTS", "8 services");
        String services = "office a 1 0 0;" + some(8, "service s# letter most 1 base 10#;");
        Room room = Due.roomOf(services);
        Due.is("services", room.count(2), 8);
        Due.is("the first", room.price(0, 1, 0, 0), 101);
        Due.is("the last", room.price(7, 1, 0, 0), 108);
        fault(5, services + "|service t letter most 1;");
        fault(5, services + "|service");
    }

    private static void mostRules() {
        Due.holds("Terms 1, TEXTS", "of at most 8 RULES,");
        Room room = Due.roomOf("office a 1 0 0;service s letter most 1" + some(8, " base 1#") + ";");
        Due.is("all eight", room.price(0, 1, 0, 0), 11 + 12 + 13 + 14 + 15 + 16 + 17 + 18);
        fault(5, "service s letter most 1" + some(8, " base 1") + " |base 1;");
        fault(5, "service s letter most 1" + some(8, " cut 1") + " |each");
        good("service s letter most 1" + some(8, " base 1") + ";service t letter most 1" + some(8, " base 1") + ";");
    }

    private static void mostCoaches() {
        Due.holds("Terms 1, TEXTS", "40 coaches;");
        String coaches = TWO + some(40, "coach a b" + TIMES);
        Due.is("coaches", Due.roomOf(coaches).count(3), 40);
        fault(5, coaches + "|coach a b" + TIMES);
        fault(5, coaches + "|coach");
    }

    private static void numbered() {
        Due.holds("Terms 1, TEXTS", "all of a sort are numbered from 0 on.");
        Room room = Due.roomOf("service p letter most 1 base 5;office a 1 0 0;street s" + STREET + "service q letter most 2 base 6;office b 2 0 0;"
            + "coach a b first 7 every 9 last 900 takes 5 holds 5;street t in b from 1 to 9 at 1 1 e walk 0;"
            + "coach b a first 8 every 9 last 900 takes 5 holds 5;");
        Due.is("service 0", room.price(0, 1, 0, 0), 5);
        Due.is("service 1", room.price(1, 1, 0, 0), 6);
        Due.fires("service 2", () -> room.price(2, 1, 0, 0), Due.ILLEGAL_ARGUMENT);
        Due.is("PIECE 0", Due.find(room, "1 s 001"), 0);
        Due.is("PIECE 1", Due.accept(room, 0, 1, 0, "1 t 002"), 0);
        Due.is("PIECE 1", room.item(0, 3), 1);
        Due.is("office 1 by coach 0", room.way(0, 1), 12);
        Due.is("office 0 by coach 1", room.way(1, 0), 13);
        Due.is("sorted", room.sort(0), 1);
        Due.is("coach 0", room.bag(0, 0), 0);
    }

    private static void faultPlaces() {
        Due.holds("Terms 1, TEXTS", "FAULTS (kind + 16 * the place, from 0, of a token; the end is one at the text's length):");
        fault(1, "|x");
        fault(1, " \n |x");
        fault(1, "office|");
        fault(1, "office \n |");
        fault(1, "office a 1 0 0|");
        fault(1, TWO + "coach a b|");
        String blanks = " ".repeat(3985);
        fault(1, blanks + "office a 1 0 0 |");
        fault(1, blanks + "office a 1 0 0|,");
        fault(4, blanks + "office a 1 |1000");
    }

    private static void leftmost() {
        Due.holds("Terms 1, TEXTS", "of the first token from the left that is wrong");
        fault(4, "office a |0 1000 x");
        fault(1, "office |5 0 1000;");
        fault(3, "office a 1 0 0;office |a 1 1000 1000;");
        fault(2, TWO + "coach |c d first 1440");
        fault(4, TWO + "street s in a from |0 to 0 at 1000 0 x walk 10;");
        fault(1, "office a 1 0 0 |office a 1 0 0;");
        fault(1, "office |1 2 3 x");
        fault(1, "short |1 2");
        fault(1, "short a |1 2");
        fault(1, "service |1 2");
        fault(1, "service a |1 2");
        fault(1, TWO + "street s |1 2");
        fault(1, TWO + "street s in a |x y");
        fault(1, TWO + "street s in a odd |x y");
        fault(2, TWO + "street s in |x y");
        fault(1, TWO + "coach a |1 2");
        fault(1, TWO + "coach a b |1 2");
    }

    private static void least() {
        Due.holds("Terms 1, TEXTS", "the least:");
        fault(1, "service s letter most 1" + some(8, " base 1") + " |walk 1;");
        fault(1, "service s letter most 1" + some(8, " base 1") + " |5;");
        fault(1, some(16, "office a# # 0 0;") + "|offices b 17 0 0;");
        Due.programmeFault(1, "try{".repeat(20) + "r0=|;");
    }

    private static void none() {
        Due.holds("Terms 1, TEXTS", "1 it is none, or can't come there.");
        fault(1, "office a 1 2 |!;");
        fault(1, "office a 1 2 |b;");
        fault(1, "office a 1 2 |;");
        fault(1, "|a b;");
        fault(1, "|=");
        fault(1, "short a |1;");
        fault(1, "service s letter |base 1;");
        fault(1, TWO + "street s |5 from in a");
        fault(1, TWO + "street s in a odd |even from 1 to 2 at 1 1 e walk 1;");
    }

    private static void noOffice() {
        Due.holds("Terms 1, TEXTS", "2 a NAME where an OFFICE is wanted that is none.");
        fault(2, "street s in |a from 1 to 9 at 1 1 e walk 0;");
        fault(2, TWO + "street s in |from 1 to 9");
        fault(2, TWO + "coach |c b" + TIMES);
        fault(2, TWO + "coach a |first 0");
        fault(1, TWO + "coach |1 b" + TIMES);
        fault(1, TWO + "coach a |; b" + TIMES);
        fault(1, TWO + "coach a |abcdefghijklm" + TIMES);
    }

    private static void told() {
        Due.holds("Terms 1, TEXTS",
            "3 what is told already: an office's NAME, CODE; a service's NAME; a short's first NAME; a coach's second office is its first.");
        fault(3, "office a 1 0 0;office |a 2 0 0;");
        fault(3, "office a 1 0 0;office b |1 0 0;");
        fault(3, "office a 1 0 0;office b |001 0 0;");
        fault(3, "service a letter most 1;service |a parcel most 2;");
        fault(3, "short a b;short |a c;");
        fault(3, TWO + "coach a |a" + TIMES);
        fault(3, TWO + "coach b |b" + TIMES);
    }

    private static void notToldTwice() {
        Due.holds("Terms 1, TEXTS", "a short's first NAME;");
        good("short a b;short c b;short b b;");
        good("office a 1 7 7;office b 2 7 7;service a letter most 1;short a a;service b letter most 1;");
        good(TWO + "street s" + STREET + "street s" + STREET + "street a" + STREET);
        good(TWO + "coach a b" + TIMES + "coach a b" + TIMES + "coach b a" + TIMES);
    }

    private static void range() {
        Due.holds("Terms 1, TEXTS", "4 a NUMBER that is not as told.");
        fault(4, "office a |1000 0 0;");
        fault(4, "office a 1 |999999999 0;");
        fault(1, "office a 1 |9999999999 0;");
        fault(4, TWO + "street s in a from 9 to |8 at 0 0 e walk 0;");
        fault(4, TWO + "coach a b first 9 every 1 last |8 takes 1 holds 1;");
    }

    private static void oneTooMany() {
        Due.holds("Terms 1, TEXTS", "5 one too many: the first token of the statement, of the ninth RULE.");
        fault(5, some(16, "office a# # 0 0;") + "|office a1 1 1000 x");
        fault(5, some(20, "short a# b;") + "|short 5");
        fault(5, TWO + some(60, "street s#" + STREET) + "|street in in c");
        fault(5, some(8, "service s# letter most 1;") + "|service s1 x");
        fault(5, TWO + some(40, "coach a b" + TIMES) + "|coach a a");
        fault(5, "service s letter most 1" + some(8, " base 1") + " |zone 10 10000");
    }

    private static void takesThePlace() {
        Due.holds("Terms 1, TEXTS", "A book without a FAULT takes the place of all there was: there are no ITEMS, nothing MOVED, no programme, "
            + "TRAYS hold nothing, rN, xN, the CLOCK, SEAL and what was told of find(), read() are as at first;");
        Room room = World.make();
        int steps = room.count(13);
        Due.is("a book of other coaches", Due.book(room, World.BOOK.replace("first 10 ", "first 20 ")), 0);
        Due.is("a WAY by these", room.way(0, 1), 27);
        Due.is("the same book", Due.book(room, World.BOOK), 0);
        int[] counts = {2, 2, 2, 2, 0, 0, 0, 0, 0, 0, 0, 0, 7, steps, 0, 0, 0, 0};
        for (int i = 0; i < counts.length; i++) {
            Due.is("count(" + i + ")", room.count(i), counts[i]);
        }
        Due.is("found(0)", room.found(0), -1);
        Due.is("found(1)", room.found(1), -1);
        Due.is("mended()", room.mended(), -1);
        for (int k = 0; k < 12; k++) {
            Due.is("number", k < 10 ? room.number(k) : 0, 0);
            Due.is("held", k < 4 ? room.held(k) : -1, -1);
            Due.is("tray", room.tray(k, 0), 0);
        }
        Due.is("no programme", room.run(0, 5), -1);
        Due.is("no bag", room.bag(0, 0), -1);
        Due.is("no shelf", room.shelf(0, 0), -1);
        Due.fires("no ITEM", () -> room.item(0, 0), Due.NO_ELEMENT);
        Due.is("a WAY by the new CLOCK", room.way(0, 1), 17);
        Due.is("the first ITEM", Due.accept(room, 1, 5, 0, "2 mill st 101"), 0);
        Due.is("of a DOOR that is not GONE", room.deliver(0, 0), 18);
        Due.is("what was under way does not come", room.tick(1000), 1000);
        Due.is("nothing comes", room.shelf(1, 0), -1);
        Due.is("another book", Due.book(room, "office x 7 1 1;"), 0);
        Due.is("no PIECE of the old one", Due.find(room, "1 mill street 101"), -1);
        Due.is("no office of the old one", room.sort(1), -1);
    }

    private static void allRunsSteps() {
        Due.holds("Terms 1, TEXTS", "only what all runs have had stays counted.");
        Room room = Due.roomOf("office a 1 0 0;");
        Due.programme(room, "while 1{}");
        for (int i = 1; i <= 9; i++) {
            Due.is("cut", room.run(0, 20000), 10);
        }
        Due.is("a book", Due.book(room, "office a 1 0 0;"), 0);
        Due.is("STEPS of all runs", room.count(13), 180000);
        Due.programme(room, "while 1{}");
        Due.is("cut", room.run(0, 19999), 10);
        Due.is("STEPS of all runs", room.count(13), 199999);
        Due.is("a book", Due.book(room, "office a 1 0 0;"), 0);
        Due.programme(room, "while 1{r0=r0+1;}");
        Due.is("cut", room.run(0, 20000), 10);
        Due.is("one STEP was left", room.count(14), 1);
        Due.is("STEPS of all runs", room.count(13), 200000);
    }

    private static void allRunsPlaces() {
        Due.holds("Terms 6, PROGRAMMES", "or of 200,000 in all runs;");
        Room room = Due.roomOf("office a 1 0 0;");
        Due.programme(room, "make@0 bytes 2000;");
        for (int i = 0; i < 99; i++) {
            Due.is("2,000 places", room.run(0, 5), 0);
        }
        Due.is("a book", Due.book(room, "office a 1 0 0;"), 0);
        Due.programme(room, "make@0 bytes 1999;");
        Due.is("199,999 places", room.run(0, 5), 0);
        Due.programme(room, "make@0 items 2;");
        Due.is("200,001 places", room.run(0, 5), 11);
        Due.is("nothing is made", room.tray(0, 0), 0);
        Due.programme(room, "make@0 items 1;");
        Due.is("200,000 places", room.run(0, 5), 0);
        Due.is("one more", room.run(0, 5), 11);
        Due.programme(room, "make@0 items 0;make@1 items -1;");
        Due.is("none is needed; below 0", room.run(0, 5), 4);
    }

    private static void allRunsRefusals() {
        Due.holds("Terms 6, PROGRAMMES",
            "FULL ends it, too; what would be the 4,001st REFUSAL of all runs is FULL instead. (All runs: of all books.)");
        Room room = Due.roomOf("office a 1 0 0;");
        Due.programme(room, "while r0<3999{try{refuse 1;}on 9{r0=r0+1;}}");
        Due.is("3,999 REFUSALS", room.run(0, 20000), 0);
        Due.is("3,999 REFUSALS", room.number(0), 3999);
        Due.is("a book", Due.book(room, "office a 1 0 0;"), 0);
        Due.programme(room, "r1=1;try{r0=1/0;}on 6{r2=1;}r3=1;");
        Due.is("the 4,000th", room.run(0, 9), 0);
        Due.is("is caught", room.number(2), 1);
        Due.programme(room, "r1=1;try{try{r0=1/0;}on 0{r2=1;}always{r3=1;}}on 0{r4=1;}always{r5=1;}r6=1;");
        Due.is("the 4,001st", room.run(0, 9), 11);
        int[] due = {0, 1, 0, 0, 0, 0, 0, 0, 0, 0};
        for (int k = 0; k < 10; k++) {
            Due.is("r" + k, room.number(k), due[k]);
        }
        Due.programme(room, "r1=1;stop;");
        Due.is("no REFUSAL", room.run(0, 9), 0);
        Due.programme(room, "refuse 1;");
        Due.is("one more", room.run(0, 9), 11);
    }

    private static void allStays() {
        Due.holds("Terms 1, TEXTS", "Else all stays.");
        String[] faults = {"x", "office a 1 0 0;street s in b", "office a 1 0 0;office a", "office a 0", some(16, "office a# # 0 0;") + "office",
            World.BOOK + "."};
        for (String text : faults) {
            Room room = World.make();
            String before = World.look(room);
            Due.is("a FAULT of " + text, Due.book(room, text) > 0, true);
            Due.is("all behind " + text, World.look(room), before);
            Due.is("the programme", room.run(0, World.RUN_STEPS), 0);
            Due.is("did what it does", room.number(3), 77);
        }
    }

    private static void answers() {
        Due.holds("Promise 3: book", "The TAPE is read as a book: 0, or its FAULT.");
        Room room = new Room();
        Due.is("an empty TAPE", room.book(), 0);
        Due.is("a book", Due.book(room, World.BOOK), 0);
        Due.is("offices", room.count(0), 2);
        Due.is("PIECES", room.count(1), 2);
        Due.is("services", room.count(2), 2);
        Due.is("coaches", room.count(3), 2);
        Due.is("a FAULT", Due.book(room, "office a 1 0;"), 1 + 16 * 12);
        Due.is("the greatest FAULT", Due.book(room, " ".repeat(3994) + "office"), 1 + 16 * 4000);
    }
}
