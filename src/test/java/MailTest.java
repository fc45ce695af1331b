import java.util.ArrayList;
import java.util.List;
import java.util.Random;

/**
 * Promises 7, 8, 12 to 16 and 23 to 26, against a plain model that goes minute by minute, tries all chains of
 * coaches and all orders of stops.
 */
public final class MailTest {
    public static void main(String[] args) {
        for (int seed = 0; seed < 1000; seed++) {
            new MailTest(seed).play();
        }
        Due.end("MailTest");
    }

    private static final class Mail {
        int number, service, weight, from, piece, door, where, office, coach = -1, price, sent, since, due;
    }

    private static final int[] SORTS = {0, 2, 1};
    private final Random random;
    private final Room room = new Room();
    private final int offices, streets, coaches;
    private final int[] x, y, streetOffice, streetX, streetY, goes, walk;
    private final int[][] coach;
    private final List<Mail> mails = new ArrayList<>();
    private final List<List<Mail>> shelves = new ArrayList<>(), bags = new ArrayList<>(), trips = new ArrayList<>();
    private final List<int[]> moves = new ArrayList<>();
    private int clock = 0, seal = 7;
    private final String told;

    private MailTest(int seed) {
        random = new Random(seed);
        offices = 2 + random.nextInt(3);
        streets = 3 + random.nextInt(4);
        coaches = 2 + random.nextInt(5);
        x = new int[offices];
        y = new int[offices];
        streetOffice = new int[streets];
        streetX = new int[streets];
        streetY = new int[streets];
        goes = new int[streets];
        walk = new int[streets];
        coach = new int[coaches][7];
        StringBuilder text = new StringBuilder();
        for (int i = 0; i < offices; i++) {
            x[i] = random.nextInt(20);
            y[i] = random.nextInt(20);
            text.append("office o").append(i).append(" ").append(100 + i).append(" ").append(x[i]).append(" ").append(y[i]).append(";");
            shelves.add(new ArrayList<>());
        }
        for (int i = 0; i < streets; i++) {
            streetOffice[i] = random.nextInt(offices);
            streetX[i] = random.nextInt(20);
            streetY[i] = random.nextInt(20);
            goes[i] = random.nextInt(4);
            walk[i] = random.nextInt(2);
            text.append("street ").append(streetName(i)).append(" in o").append(streetOffice[i]).append(" from 3 to 30 at ").append(streetX[i])
                .append(" ").append(streetY[i]).append(" ").append("enws".charAt(goes[i])).append(" walk ").append(walk[i]).append(";");
        }
        text.append("service a letter most 100 base 5;service b register most 200 base 1 each 7 2 over 0;service c parcel most 300 far 3 base 4;");
        for (int i = 0; i < coaches; i++) {
            int[] c = coach[i];
            c[0] = random.nextInt(offices);
            c[1] = (c[0] + 1 + random.nextInt(offices - 1)) % offices;
            c[2] = random.nextInt(random.nextBoolean() ? 30 : 1440);
            c[3] = 1 + random.nextInt(random.nextBoolean() ? 40 : 1440);
            c[4] = c[2] + random.nextInt(1440 - c[2]);
            c[5] = 1 + random.nextInt(random.nextInt(4) > 0 ? 60 : 3000);
            c[6] = 1 + random.nextInt(random.nextBoolean() ? 3 : 20);
            text.append("coach o").append(c[0]).append(" o").append(c[1]).append(" first ").append(c[2]).append(" every ").append(c[3])
                .append(" last ").append(c[4]).append(" takes ").append(c[5]).append(" holds ").append(c[6]).append(";");
            bags.add(new ArrayList<>());
        }
        told = text.toString();
    }

    private static String streetName(int i) {
        return "abcdefgh".substring(i, i + 1).repeat(9);
    }

    private void is(String what, long got, long want) {
        Due.is(what + " of " + told + " at " + clock, got, want);
    }

    /** What is left of the calls behind the last round is used for questions. */
    private void play() {
        is("book", Due.book(room, told), 0);
        int reserve = 50 + random.nextInt(250);
        for (int round = 0; room.callsLeft() > reserve; round++) {
            int what = random.nextInt(10);
            if (what < 4) {
                for (int i = random.nextInt(6); i >= 0; i--) {
                    accept();
                }
            } else if (what == 4) {
                move();
            } else if (what < 7) {
                sort();
            } else if (what < 9) {
                int n = random.nextInt(random.nextInt(5) > 0 ? 60 : 3001);
                is("tick", room.tick(n), pass(n));
            } else {
                deliver();
            }
            if (round % 3 == 0) {
                ask(10);
            }
        }
        ask(room.callsLeft());
    }

    private int goal(Mail mail) {
        return mail.piece < 0 ? mail.from : streetOffice[mail.piece];
    }

    private void log(Mail mail, int what, int office) {
        if (SORTS[mail.service] == 2) {
            seal = (int) ((33L * seal + mail.number + 8 * what + 64 * office + clock) % 65521);
        }
    }

    private void accept() {
        Mail mail = new Mail();
        mail.service = random.nextInt(3);
        mail.weight = 1 + random.nextInt(320);
        mail.from = random.nextInt(offices);
        mail.piece = random.nextInt(streets);
        mail.door = 27 * (3 + random.nextInt(4)) + random.nextInt(2);
        String text = mail.door / 27 + (mail.door % 27 == 1 ? "a" : "") + " " + streetName(mail.piece) + " " + (100 + goal(mail));
        int due = mail.weight > 100 * (mail.service + 1) ? -3 : mails.size() >= 200 ? -4 : mails.size();
        is("accept " + text, Due.accept(room, mail.service, mail.weight, mail.from, text), due);
        if (due < 0) {
            return;
        }
        mail.number = mails.size();
        mail.office = mail.from;
        int zone = goal(mail) == mail.from ? 0
            : 1 + (Math.abs(x[goal(mail)] - x[mail.from]) + Math.abs(y[goal(mail)] - y[mail.from])) / 100;
        mail.price = mail.service == 0 ? 5 : mail.service == 1 ? 1 + (mail.weight + 6) / 7 * 2 : 4 + 3 * Math.max(0, zone - 1);
        mail.since = clock;
        mails.add(mail);
        shelves.get(mail.from).add(mail);
        log(mail, 0, mail.from);
    }

    private void move() {
        int piece = random.nextInt(streets);
        int door = 27 * (3 + random.nextInt(4)) + random.nextInt(2);
        int[] old = null;
        for (int[] m : moves) {
            old = m[0] == piece && m[1] == door ? m : old;
        }
        if (random.nextInt(3) == 0) {
            is("gone", room.gone(piece, door) ? 1 : 0, old == null && moves.size() >= 40 ? 0 : 1);
            moves.remove(old);
            if (moves.size() < 40) {
                moves.add(new int[] {piece, door, -1, 0});
            }
            return;
        }
        int toPiece = random.nextInt(streets);
        int toDoor = 27 * (3 + random.nextInt(4)) + random.nextInt(2);
        String text = toDoor / 27 + (toDoor % 27 == 1 ? "a " : " ") + streetName(toPiece) + " " + (100 + streetOffice[toPiece]);
        boolean isSelf = toPiece == piece && toDoor == door;
        boolean due = !isSelf && (old != null || moves.size() < 40);
        is("moved " + text, Due.moved(room, piece, door, text) ? 1 : 0, due ? 1 : 0);
        if (due) {
            moves.remove(old);
            moves.add(new int[] {piece, door, toPiece, toDoor});
        }
    }

    private boolean goesIn(int[] c, int minute) {
        for (int m = c[2]; m <= c[4]; m += c[3]) {
            if (m == minute % 1440) {
                return true;
            }
        }
        return false;
    }

    private int timeBehind(int[] c, int time) {
        int t = time + 1;
        while (!goesIn(c, t)) {
            t++;
        }
        return t;
    }

    private int best, bestFirst;

    private void tryChains(int at, int time, int to, int depth, int first) {
        if (depth > 0 && at == to && (time < best || time == best && first < bestFirst)) {
            best = time;
            bestFirst = first;
        }
        if (depth > offices) {
            return;
        }
        for (int i = 0; i < coaches; i++) {
            if (coach[i][0] == at) {
                int comes = timeBehind(coach[i], time) + coach[i][5];
                if (comes <= clock + 20160 && comes <= best) {
                    tryChains(coach[i][1], comes, to, depth + 1, depth == 0 ? i : first);
                }
            }
        }
    }

    private int wayTime(int from, int to) {
        best = Integer.MAX_VALUE;
        bestFirst = -1;
        tryChains(from, clock, to, 0, -1);
        return from == to || best == Integer.MAX_VALUE ? -1 : best;
    }

    private void toBag(Mail mail, int into) {
        shelves.get(mail.office).remove(mail);
        mail.where = 1;
        mail.coach = into;
        mail.since = clock;
        bags.get(into).add(mail);
        log(mail, 1, mail.office);
    }

    private void sort() {
        int office = random.nextInt(offices);
        int due = 0;
        for (Mail mail : new ArrayList<>(shelves.get(office))) {
            if (wayTime(office, goal(mail)) >= 0) {
                toBag(mail, bestFirst);
                due++;
            }
        }
        is("sort", room.sort(office), due);
    }

    private int pass(int n) {
        for (int k = 0; k < n; k++) {
            clock++;
            for (List<Mail> trip : new ArrayList<>(trips)) {
                if (trip.get(0).due == clock) {
                    trips.remove(trip);
                    for (Mail mail : trip) {
                        mail.where = 0;
                        mail.coach = -1;
                        mail.since = clock;
                        shelves.get(mail.office).add(mail);
                        log(mail, 3, mail.office);
                    }
                }
            }
            for (int i = 0; i < coaches; i++) {
                if (!bags.get(i).isEmpty() && goesIn(coach[i], clock)) {
                    goOff(i);
                }
            }
        }
        return clock;
    }

    private void goOff(int i) {
        List<Mail> trip = new ArrayList<>();
        while (trip.size() < coach[i][6] && !bags.get(i).isEmpty()) {
            Mail mail = bags.get(i).remove(0);
            mail.where = 2;
            mail.office = coach[i][1];
            mail.since = clock;
            mail.due = clock + coach[i][5];
            log(mail, 2, coach[i][0]);
            trip.add(mail);
        }
        trips.add(trip);
    }

    private int[] place(Mail mail) {
        int on = mail.door / 27 - 3;
        int s = mail.piece;
        int[] dx = {1, 0, -1, 0};
        int[] dy = {0, 1, 0, -1};
        return new int[] {streetX[s] + on * dx[goes[s]], streetY[s] + on * dy[goes[s]]};
    }

    private void deliver() {
        int office = random.nextInt(offices);
        int which = random.nextInt(4);
        if (which == 3) {
            int due = 0;
            for (Mail mail : new ArrayList<>(shelves.get(office))) {
                if (mail.piece < 0 && mail.from == office) {
                    over(mail, 4, 5);
                    due++;
                }
            }
            is("back", room.deliver(office, 10), due);
            return;
        }
        List<int[]> stops = new ArrayList<>();
        List<List<Mail>> given = new ArrayList<>();
        for (Mail mail : shelves.get(office)) {
            if (mail.piece < 0 || streetOffice[mail.piece] != office || walk[mail.piece] != which || sendOn(mail)) {
                continue;
            }
            int[] p = place(mail);
            int k = 0;
            while (k < stops.size() && (stops.get(k)[0] != p[0] || stops.get(k)[1] != p[1])) {
                k++;
            }
            if (k == stops.size() && k < 8) {
                stops.add(p);
                given.add(new ArrayList<>());
            }
            if (k < stops.size()) {
                given.get(k).add(mail);
            }
        }
        bestWalk = Integer.MAX_VALUE;
        bestOrder = new int[0];
        tryOrders(stops, office, new int[stops.size()], 0, 0, 0);
        for (int k : bestOrder) {
            for (Mail mail : given.get(k)) {
                over(mail, 3, 4);
            }
        }
        is("deliver", room.deliver(office, which), stops.isEmpty() ? -1 : bestWalk);
    }

    private int bestWalk;
    private int[] bestOrder;

    /** Orders come in the order in which ties are told, so only a less long walk takes a place. */
    private void tryOrders(List<int[]> stops, int office, int[] order, int size, int used, int length) {
        int[] home = {x[office], y[office]};
        int[] at = size == 0 ? home : stops.get(order[size - 1]);
        if (size == stops.size()) {
            int all = length + Math.abs(at[0] - home[0]) + Math.abs(at[1] - home[1]);
            if (all < bestWalk) {
                bestWalk = all;
                bestOrder = order.clone();
            }
            return;
        }
        for (int i = 0; i < stops.size(); i++) {
            if ((used >> i & 1) == 0) {
                int[] to = stops.get(i);
                order[size] = i;
                int step = Math.abs(at[0] - to[0]) + Math.abs(at[1] - to[1]);
                tryOrders(stops, office, order, size + 1, used | 1 << i, length + step);
            }
        }
    }

    private void over(Mail mail, int where, int what) {
        shelves.get(mail.office).remove(mail);
        mail.where = where;
        mail.since = clock;
        log(mail, what, mail.office);
    }

    private boolean sendOn(Mail mail) {
        for (int[] m : moves) {
            if (m[0] == mail.piece && m[1] == mail.door) {
                if (m[2] < 0 || mail.sent == 2) {
                    mail.piece = -1;
                    log(mail, 7, mail.office);
                } else {
                    mail.piece = m[2];
                    mail.door = m[3];
                    mail.sent++;
                    log(mail, 6, mail.office);
                }
                return true;
            }
        }
        return false;
    }

    private void ask(int times) {
        for (int i = 0; i < times; i++) {
            int which = random.nextInt(8);
            if (which < 3 && !mails.isEmpty()) {
                askItem(mails.get(random.nextInt(mails.size())), random.nextInt(11));
            } else if (which == 3) {
                askCount();
            } else if (which == 4) {
                int from = random.nextInt(offices);
                int to = random.nextInt(offices);
                is("way " + from + " " + to, room.way(from, to), wayTime(from, to));
            } else if (which == 5) {
                int coachNumber = random.nextInt(coaches);
                int k = random.nextInt(bags.get(coachNumber).size() + 2) - 1;
                is("bag", room.bag(coachNumber, k), numberIn(bags.get(coachNumber), k));
            } else {
                int office = random.nextInt(offices);
                int k = random.nextInt(shelves.get(office).size() + 2) - 1;
                is("shelf", room.shelf(office, k), numberIn(shelves.get(office), k));
            }
        }
    }

    private static int numberIn(List<Mail> row, int k) {
        return k < 0 || k >= row.size() ? -1 : row.get(k).number;
    }

    private void askItem(Mail m, int what) {
        int[] due = {m.service, m.weight, m.from, m.piece, m.door, m.where, m.office, m.where == 1 || m.where == 2 ? m.coach : -1,
            m.price, m.sent, m.since};
        is("item(" + m.number + ", " + what + ")", room.item(m.number, what), due[what]);
    }

    private void askCount() {
        int[] due = {offices, streets, 3, coaches, clock, mails.size(), 0, 0, 0, 0, 0, moves.size(), seal, 0, 0, 0, 0, trips.size()};
        for (Mail m : mails) {
            due[6 + m.where]++;
            due[15] += m.price;
        }
        int what = random.nextInt(3) == 0 ? 12 : random.nextInt(due.length);
        is("count " + what, room.count(what), due[what]);
    }
}
