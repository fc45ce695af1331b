/** Terms 5 (ITEMS), of the CLOCK, COACHES and WAYS; promises 7, 12, 13 and 25; each sentence that names an edge by itself. */
public final class CoachSentencesTest {
    private static final String TERMS = "Terms 5, ITEMS";
    private static final int MIN = Integer.MIN_VALUE;
    private static final int MAX = Integer.MAX_VALUE;
    /** To a, b, c and d one writes "1 s 001", "1 t 002", "1 u 003" and "1 v 004". */
    private static final String BOOK = "office a 1 0 0;office b 2 0 0;office c 3 0 0;office d 4 0 0;street s in a from 1 to 9 at 0 0 e walk 0;"
        + "street t in b from 1 to 9 at 0 0 e walk 0;street u in c from 1 to 9 at 0 0 e walk 0;street v in d from 1 to 9 at 0 0 e walk 0;"
        + "service p letter most 9;service r register most 9;";

    public static void main(String[] args) {
        clockAtFirst();
        goesEachDay();
        firstAndLast();
        emptyBag();
        holds();
        comesLater();
        longRide();
        comeInOrder();
        goInOrder();
        comeThenGo();
        wayOfSeveral();
        wayBehind();
        earliest();
        toldFirst();
        toldFirstOfRows();
        farthest();
        wayAnswers();
        wayThrows();
        ticks();
        wrongTicks();
        sorting();
        sortOrder();
        sortNone();
        bags();
        Due.end("CoachSentencesTest");
    }

    private static String coach(String offices, int first, int every, int last, int takes, int holds) {
        return "coach " + offices + " first " + first + " every " + every + " last " + last + " takes " + takes + " holds " + holds + ";";
    }

    /** A coach that goes once a day. */
    private static String daily(String offices, int first, int takes) {
        return coach(offices, first, 1440, first, takes, 20);
    }

    private static void accept(Room room, int number, int service, int from, int to) {
        String text = "1 " + (char) ('s' + to) + " 00" + (to + 1);
        Due.is("accept " + text, Due.accept(room, service, 5, from, text), number);
    }

    private static Room withItems(String coaches, int many, int to) {
        Room room = Due.roomOf(BOOK + coaches);
        for (int i = 0; i < many; i++) {
            accept(room, i, 0, 0, to);
        }
        return room;
    }

    /** The minutes in which ITEMS come that go from a to b by a coach that holds one and takes a minute. */
    private static void comes(int first, int every, int last, int... due) {
        Room room = withItems(coach("a b", first, every, last, 1, 1), due.length, 1);
        Due.is("sort", room.sort(0), due.length);
        for (int t = 0; t < 6000; t += 1500) {
            room.tick(1500);
        }
        for (int i = 0; i < due.length; i++) {
            Due.is("first " + first + " every " + every + " last " + last + ": came", room.item(i, 10), due[i] + 1);
        }
    }

    private static void clockAtFirst() {
        Due.holds(TERMS, "The CLOCK has minutes, 0 at first.");
        Due.is("of a new object", new Room().count(4), 0);
        Room room = Due.roomOf(BOOK);
        Due.is("of a book", room.count(4), 0);
        Due.is("a MINUTE", room.tick(1), 1);
        Due.is("a book", Due.book(room, BOOK), 0);
        Due.is("is a new one", room.count(4), 0);
    }

    private static void goesEachDay() {
        Due.holds(TERMS, "A COACH goes each day (of 1440 minutes) at its minutes M, M + N, M + 2 N .. not above L,");
        comes(10, 30, 70, 10, 40, 70, 1450, 1480, 1510, 2890);
        comes(10, 30, 69, 10, 40, 1450, 1480, 2890);
        comes(10, 30, 71, 10, 40, 70, 1450);
        comes(10, 30, 99, 10, 40, 70, 1450);
        comes(10, 30, 100, 10, 40, 70, 100, 1450);
        comes(1430, 4, 1439, 1430, 1434, 1438, 2870);
    }

    private static void firstAndLast() {
        Due.holds(TERMS, "at its minutes M, M + N, M + 2 N .. not above L,");
        comes(0, 1440, 0, 1440, 2880, 4320);
        comes(0, 1, 0, 1440, 2880, 4320);
        comes(0, 1, 1439, 1, 2, 3, 4, 5);
        comes(1439, 1, 1439, 1439, 2879, 4319);
        comes(1439, 1440, 1439, 1439, 2879);
        comes(0, 1439, 1439, 1439, 1440, 2879, 2880);
        comes(0, 1440, 1439, 1440, 2880);
        comes(700, 1440, 1439, 700, 2140);
        comes(1, 1438, 1439, 1, 1439, 1441, 2879);
    }

    private static void emptyBag() {
        Due.holds(TERMS, "if its BAG has ITEMS:");
        Room room = withItems(coach("a b", 1, 1, 1439, 50, 20), 1, 1);
        room.tick(5);
        Due.is("none goes", room.count(17), 0);
        room.sort(0);
        room.tick(1);
        Due.is("one goes", room.count(17), 1);
        room.tick(10);
        Due.is("no more", room.count(17), 1);
    }

    private static void holds() {
        Due.holds(TERMS, "the first K of these, or all, go;");
        Room room = withItems(coach("a b", 10, 10, 1439, 5, 3), 7, 1);
        Due.is("sort", room.sort(0), 7);
        room.tick(9);
        Due.is("in BAGS", room.count(7), 7);
        room.tick(1);
        Due.is("three go", room.count(8), 3);
        Due.is("the first of these", room.item(2, 5), 2);
        Due.is("the next one is first now", room.bag(0, 0), 3);
        room.tick(10);
        Due.is("three more", room.item(5, 5), 2);
        Due.is("one is left", room.bag(0, 0), 6);
        room.tick(10);
        Due.is("all, or one", room.item(6, 5), 2);
        Due.is("none is left", room.bag(0, 0), -1);
        Room one = withItems(coach("a b", 10, 10, 1439, 5, 20), 21, 1);
        Due.is("sort", one.sort(0), 21);
        one.tick(10);
        Due.is("twenty go", one.count(8), 20);
        Room exactly = withItems(coach("a b", 10, 10, 1439, 5, 2), 2, 1);
        exactly.sort(0);
        exactly.tick(10);
        Due.is("both go", exactly.count(8), 2);
    }

    private static void comesLater() {
        Due.holds(TERMS, "T minutes later they come on its second office's SHELF, in their order.");
        Room room = withItems(coach("a b", 10, 10, 1439, 7, 3), 4, 1);
        accept(room, 4, 0, 1, 1);
        room.sort(0);
        room.tick(16);
        Due.is("not yet", room.count(8), 3);
        room.tick(1);
        Due.is("they came", room.count(8), 0);
        int[] due = {4, 0, 1, 2, -1};
        for (int k = 0; k < due.length; k++) {
            Due.is("SHELF of b, " + k, room.shelf(1, k), due[k]);
        }
        Due.is("when", room.item(2, 10), 17);
        room.tick(10);
        Due.is("behind those that are there", room.shelf(1, 4), 3);
    }

    private static void longRide() {
        Due.holds(TERMS, "T minutes later they come");
        Room room = withItems(coach("a b", 1, 1, 1439, 3000, 1), 3, 1);
        room.sort(0);
        Due.is("tick", room.tick(3), 3);
        Due.is("three goings", room.count(17), 3);
        Due.is("tick", room.tick(2997), 3000);
        Due.is("still under way", room.count(8), 3);
        room.tick(1);
        Due.is("one came", room.item(0, 10), 3001);
        Due.is("two are under way", room.count(17), 2);
        room.tick(2);
        Due.is("the last one came", room.item(2, 10), 3003);
        Room over = withItems(daily("a b", 10, 100) + daily("d b", 20, 5), 1, 1);
        accept(over, 1, 0, 3, 1);
        Due.is("both are sorted", over.sort(0) + over.sort(3), 2);
        over.tick(25);
        Due.is("what went later comes first", over.shelf(1, 0), 1);
        over.tick(84);
        Due.is("the other one is under way", over.item(0, 5), 2);
        over.tick(1);
        Due.is("and comes", over.shelf(1, 1), 0);
        Room next = withItems(coach("a b", 5, 1, 5, 1, 1), 1, 1);
        next.sort(0);
        next.tick(5);
        Due.is("T 1: under way", next.item(0, 5), 2);
        next.tick(1);
        Due.is("T 1: it came", next.item(0, 5), 0);
    }

    private static void comeInOrder() {
        Due.holds(TERMS, "A MINUTE: the CLOCK is one more; COACHES come, in the order in which they went;");
        Room room = Due.roomOf(BOOK + daily("a c", 10, 5) + daily("b c", 5, 10) + daily("d c", 10, 5));
        accept(room, 0, 1, 0, 2);
        accept(room, 1, 1, 1, 2);
        accept(room, 2, 1, 3, 2);
        room.sort(3);
        room.sort(0);
        room.sort(1);
        room.tick(14);
        Due.is("three are under way", room.count(17), 3);
        int seal = room.count(12);
        room.tick(1);
        int[] due = {1, 0, 2};
        for (int k = 0; k < 3; k++) {
            Due.is("SHELF of c, " + k, room.shelf(2, k), due[k]);
            seal = ItemSentencesTest.line(seal, due[k], 3, 2, 15);
        }
        Due.is("SEAL", room.count(12), seal);
    }

    private static void goInOrder() {
        Due.holds(TERMS, "then COACHES go, in the order in which they are told.");
        Room room = Due.roomOf(BOOK + daily("d c", 7, 5) + daily("a c", 7, 5) + daily("b c", 7, 6));
        accept(room, 0, 1, 0, 2);
        accept(room, 1, 1, 1, 2);
        accept(room, 2, 1, 3, 2);
        room.sort(1);
        room.sort(0);
        room.sort(3);
        int seal = room.count(12);
        room.tick(7);
        int[] order = {2, 0, 1};
        int[] from = {3, 0, 1};
        for (int i = 0; i < 3; i++) {
            seal = ItemSentencesTest.line(seal, order[i], 2, from[i], 7);
        }
        Due.is("SEAL", room.count(12), seal);
        room.tick(5);
        Due.is("the first told", room.shelf(2, 0), 2);
        Due.is("the second told", room.shelf(2, 1), 0);
        Due.is("the third takes more", room.shelf(2, 2), -1);
    }

    private static void comeThenGo() {
        Due.holds(TERMS, "COACHES come, in the order in which they went; then COACHES go,");
        Room room = Due.roomOf(BOOK + daily("b a", 15, 5) + daily("a b", 10, 5));
        accept(room, 0, 1, 0, 1);
        accept(room, 1, 1, 1, 0);
        room.sort(0);
        room.sort(1);
        room.tick(14);
        int seal = room.count(12);
        room.tick(1);
        seal = ItemSentencesTest.line(seal, 0, 3, 1, 15);
        seal = ItemSentencesTest.line(seal, 1, 2, 1, 15);
        Due.is("SEAL", room.count(12), seal);
    }

    private static void wayOfSeveral() {
        Due.holds(TERMS, "A WAY from an office to another one: coaches one behind the other,");
        Room room = Due.roomOf(BOOK + daily("a b", 10, 5) + daily("b c", 20, 5) + daily("c d", 30, 5));
        Due.is("one coach", room.way(0, 1), 15);
        Due.is("two coaches", room.way(0, 2), 25);
        Due.is("three coaches", room.way(0, 3), 35);
        Due.is("from between", room.way(1, 3), 35);
        Due.is("not against them", room.way(3, 0), -1);
        Due.is("not against them", room.way(1, 0), -1);
        StringBuilder text = new StringBuilder();
        for (int i = 0; i < 16; i++) {
            text.append("office o").append(i).append(" ").append(i + 1).append(" 0 0;");
        }
        for (int i = 14; i >= 0; i--) {
            text.append("coach o").append(i).append(" o").append(i + 1).append(" first 0 every 1 last 1439 takes 9 holds 1;");
        }
        Due.is("fifteen coaches", Due.roomOf(text.toString()).way(0, 15), 150);
    }

    private static void wayBehind() {
        Due.holds(TERMS, "each at the first of its times behind the minute in which the one ahead came (the first coach: behind the CLOCK);");
        String ahead = coach("a b", 10, 20, 50, 5, 1);
        Due.is("it goes before: a day later", Due.roomOf(BOOK + ahead + daily("b c", 14, 5)).way(0, 2), 1440 + 19);
        Due.is("it goes as one comes: a day later", Due.roomOf(BOOK + ahead + daily("b c", 15, 5)).way(0, 2), 1440 + 20);
        Due.is("it goes a minute later", Due.roomOf(BOOK + ahead + daily("b c", 16, 5)).way(0, 2), 21);
        Due.is("its next time", Due.roomOf(BOOK + ahead + coach("b c", 5, 10, 25, 5, 1)).way(0, 2), 30);
        Due.is("its last time", Due.roomOf(BOOK + ahead + coach("b c", 5, 11, 16, 5, 1)).way(0, 2), 21);
        Room room = Due.roomOf(BOOK + ahead);
        room.tick(9);
        Due.is("a minute ahead", room.way(0, 1), 15);
        room.tick(1);
        Due.is("behind the CLOCK", room.way(0, 1), 35);
        room.tick(39);
        Due.is("the last one", room.way(0, 1), 55);
        room.tick(1);
        Due.is("the next day", room.way(0, 1), 1455);
        room.tick(1400);
        Due.is("the next day's second", room.way(0, 1), 1475);
        Room midnight = Due.roomOf(BOOK + daily("a b", 0, 1));
        Due.is("minute 0 is behind it only a day later", midnight.way(0, 1), 1441);
        midnight.tick(1439);
        Due.is("a minute ahead", midnight.way(0, 1), 1441);
        midnight.tick(1);
        Due.is("a day later", midnight.way(0, 1), 2881);
    }

    private static void earliest() {
        Due.holds(TERMS, "that which comes earliest is meant,");
        Due.is("over b", Due.roomOf(BOOK + daily("a c", 5, 50) + daily("a b", 10, 5) + daily("b c", 20, 5)).way(0, 2), 25);
        Due.is("straight", Due.roomOf(BOOK + daily("a b", 10, 5) + daily("b c", 20, 5) + daily("a c", 19, 5)).way(0, 2), 24);
        Due.is("a later one that is faster", Due.roomOf(BOOK + daily("a b", 10, 30) + daily("a b", 20, 5)).way(0, 1), 25);
        Room room = withItems(daily("a b", 10, 30) + daily("a b", 20, 19), 1, 1);
        room.sort(0);
        Due.is("a minute earlier", room.bag(1, 0), 0);
        Due.is("three coaches", Due.roomOf(BOOK + daily("a d", 5, 50) + daily("a b", 10, 5) + daily("b c", 20, 5) + daily("c d", 30, 5)).way(0, 3), 35);
        Due.is("what BAGS hold does not count", withItems(coach("a b", 10, 10, 1439, 5, 1), 5, 1).way(0, 1), 15);
    }

    private static void begins(String coaches, int to, int due) {
        Room room = withItems(coaches, 1, to);
        Due.is("sort by " + coaches, room.sort(0), 1);
        Due.is("coach of " + coaches, room.item(0, 7), due);
    }

    private static void toldFirst() {
        Due.holds(TERMS, "of several one whose first coach is told first.");
        begins(daily("a b", 10, 30) + daily("a b", 20, 20), 1, 0);
        begins(daily("a b", 20, 20) + daily("a b", 10, 30), 1, 0);
        begins(daily("b a", 20, 20) + daily("a b", 10, 30) + daily("a b", 10, 30), 1, 1);
        begins(daily("a b", 20, 20) + daily("a b", 10, 29), 1, 1);
        begins(daily("a c", 10, 15) + daily("a b", 10, 5) + daily("b c", 20, 5), 2, 0);
        begins(daily("b c", 20, 5) + daily("a b", 10, 5) + daily("a c", 10, 15), 2, 1);
    }

    /** What comes later ahead may be told first, if both reach the same coach. */
    private static void toldFirstOfRows() {
        Due.holds(TERMS, "one whose first coach is told first.");
        begins(daily("a b", 30, 5) + daily("a b", 10, 5) + daily("b c", 50, 5), 2, 0);
        begins(daily("a b", 45, 5) + daily("a b", 10, 5) + daily("b c", 50, 5), 2, 1);
        begins(daily("a b", 30, 5) + daily("a d", 10, 5) + daily("d c", 50, 5) + daily("b c", 52, 3), 2, 0);
        begins(daily("a d", 20, 5) + daily("d b", 30, 5) + daily("a b", 10, 5) + daily("b c", 50, 5), 2, 0);
    }

    private static void farthest() {
        Due.holds(TERMS, "There is none if it would come more than 20160 minutes behind the CLOCK.");
        StringBuilder offices = new StringBuilder("service p letter most 9;");
        StringBuilder rows = new StringBuilder();
        for (int i = 0; i < 9; i++) {
            offices.append("office o").append(i).append(" ").append(i + 1).append(" 0 0;");
            if (i < 6) {
                rows.append("coach o").append(i).append(" o").append(i + 1).append(" first 1 every 1440 last 1 takes 2879 holds 1;");
            }
        }
        String last = "coach o6 o7 first 1 every 1440 last 1 takes ";
        String street = "street s in o7 from 1 to 9 at 0 0 e walk 0;";
        Room just = Due.roomOf(offices + street + rows + last + "2879 holds 1;");
        Due.is("six coaches", just.way(0, 6), 6 * 2880);
        Due.is("20160 minutes", just.way(0, 7), 20160);
        Due.accept(just, 0, 1, 0, "1 s 008");
        Due.is("there is a WAY", just.sort(0), 1);
        Room over = Due.roomOf(offices + street + rows + last + "2880 holds 1;");
        Due.is("20161 minutes", over.way(0, 7), -1);
        Due.accept(over, 0, 1, 0, "1 s 008");
        Due.is("there is no WAY", over.sort(0), 0);
        over.tick(1);
        Due.is("a day more from 1 on", over.way(0, 6), 6 * 2880 + 1440);
        Room late = Due.roomOf(offices + street + rows + last + "1438 holds 1;");
        Due.is("at 0", late.way(0, 7), 20160 - 1441);
        late.tick(1);
        Due.is("at 1: 20158 minutes", late.way(0, 7), 20160 - 1);
        Room later = Due.roomOf(offices + street + rows + last + "1440 holds 1;");
        later.tick(1);
        Due.is("at 1: 20160 minutes", later.way(0, 7), 20161);
        Room latest = Due.roomOf(offices + street + rows + last + "1441 holds 1;");
        latest.tick(1);
        Due.is("at 1: 20161 minutes", latest.way(0, 7), -1);
    }

    private static void wayAnswers() {
        Due.holds("Promise 7: way", "The minute at which the WAY comes; NONE if there is none, or both are one.");
        Room room = Due.roomOf(BOOK + daily("a b", 10, 5) + daily("b a", 20, 5));
        Due.is("to b", room.way(0, 1), 15);
        Due.is("there and back is none", room.way(0, 0), -1);
        Due.is("both are one", room.way(1, 1), -1);
        Due.is("both are one, without coaches", room.way(3, 3), -1);
        Due.is("none", room.way(0, 2), -1);
        Due.is("none", room.way(2, 0), -1);
        room.tick(3000);
        Due.is("the minute of the CLOCK, not of the day", room.way(0, 1), 4335);
    }

    private static void wayThrows() {
        Due.holds("Promise 7: way", "IllegalArgumentException: no such office.");
        Room room = Due.roomOf(BOOK + daily("a b", 10, 5));
        int[][] wrong = {{-1, 0}, {0, -1}, {4, 0}, {0, 4}, {4, 4}, {-1, -1}, {15, 0}, {0, 16}, {MIN, 0}, {0, MAX}};
        for (int[] w : wrong) {
            Due.fires("way(" + w[0] + ", " + w[1] + ")", () -> room.way(w[0], w[1]), Due.ILLEGAL_ARGUMENT);
        }
        Due.is("the last one", room.way(3, 3), -1);
    }

    private static void ticks() {
        Due.holds("Promise 12: tick", "n MINUTES pass: the CLOCK.");
        Room room = withItems(coach("a b", 10, 10, 1439, 7, 1), 2, 1);
        room.sort(0);
        Due.is("tick(0)", room.tick(0), 0);
        Due.is("tick(1)", room.tick(1), 1);
        Due.is("tick(8)", room.tick(8), 9);
        Due.is("nothing went", room.count(8), 0);
        Due.is("tick(0)", room.tick(0), 9);
        Due.is("nothing went", room.count(8), 0);
        Due.is("tick(1)", room.tick(1), 10);
        Due.is("one went", room.count(8), 1);
        Due.is("tick(0)", room.tick(0), 10);
        Due.is("nothing more went", room.count(8), 1);
        Due.is("tick(3000)", room.tick(3000), 3010);
        Due.is("both came", room.count(6), 2);
        Due.is("as they did minute by minute", room.item(1, 10), 27);
        Due.is("count(4)", room.count(4), 3010);
        Due.is("an object without a book", new Room().tick(3000), 3000);
    }

    private static void wrongTicks() {
        Due.holds("Promise 12: tick", "NONE if n is not 0 .. 3000.");
        Room room = Due.roomOf(BOOK);
        room.tick(5);
        int[] wrong = {-1, 3001, MIN, MAX};
        for (int n : wrong) {
            Due.is("tick(" + n + ")", room.tick(n), -1);
            Due.is("the CLOCK stays", room.count(4), 5);
        }
    }

    private static void sorting() {
        Due.holds("Promise 13: sort", "Each ITEM on an office's SHELF, in order, that goes to another office, and has a WAY to it, "
            + "comes into the BAG of the coach with which that begins: how many.");
        Room room = Due.roomOf(BOOK + daily("a b", 10, 5) + daily("a c", 10, 5) + daily("b a", 10, 5));
        int[] goals = {1, 0, 2, 3, 1, 0, 2};
        for (int i = 0; i < goals.length; i++) {
            accept(room, i, 0, 0, goals[i]);
        }
        accept(room, 7, 0, 1, 0);
        Due.is("four of seven", room.sort(0), 4);
        int[] coaches = {0, -1, 1, -1, 0, -1, 1, -1};
        for (int i = 0; i < coaches.length; i++) {
            Due.is("coach of " + i, room.item(i, 7), coaches[i]);
            Due.is("where " + i + " is", room.item(i, 5), coaches[i] < 0 ? 0 : 1);
        }
        int[] stay = {1, 3, 5, -1};
        for (int k = 0; k < stay.length; k++) {
            Due.is("on the SHELF, " + k, room.shelf(0, k), stay[k]);
        }
        Due.is("no more", room.sort(0), 0);
        Due.is("an empty SHELF", room.sort(2), 0);
        Due.is("it lies at its first office", room.item(2, 6), 0);
        Due.is("of another SHELF", room.sort(1), 1);
    }

    private static void sortOrder() {
        Due.holds(TERMS, "1 in the BAG of a coach (likewise; it lies at its first office),");
        Room room = Due.roomOf(BOOK + daily("b a", 10, 5));
        for (int i = 0; i < 3; i++) {
            accept(room, i, 1, 1, 0);
        }
        int seal = room.count(12);
        Due.is("sort", room.sort(1), 3);
        accept(room, 3, 0, 1, 0);
        Due.is("sort", room.sort(1), 1);
        for (int i = 0; i < 4; i++) {
            Due.is("BAG, " + i, room.bag(0, i), i);
            Due.is("its office", room.item(i, 6), 1);
            seal = i < 3 ? ItemSentencesTest.line(seal, i, 1, 1, 0) : seal;
        }
        Due.is("SEAL", room.count(12), seal);
    }

    private static void sortNone() {
        Due.holds("Promise 13: sort", "NONE: no such office.");
        Room room = Due.roomOf(BOOK);
        int[] wrong = {-1, 4, 16, MIN, MAX};
        for (int office : wrong) {
            Due.is("sort(" + office + ")", room.sort(office), -1);
        }
        Due.is("the last one", room.sort(3), 0);
    }

    private static void bags() {
        Due.holds("Promise 25: bag", "The ITEM in a place of a coach's BAG; NONE.");
        Room room = withItems(daily("b a", 10, 5) + daily("a b", 10, 5), 3, 1);
        Due.is("an empty one", room.bag(1, 0), -1);
        room.sort(0);
        int[][] all = {{1, 0, 0}, {1, 1, 1}, {1, 2, 2}, {1, 3, -1}, {1, -1, -1}, {0, 0, -1}, {2, 0, -1}, {-1, 0, -1}, {39, 0, -1}, {40, 0, -1},
            {MIN, 0, -1}, {MAX, 0, -1}, {1, MIN, -1}, {1, MAX, -1}};
        for (int[] one : all) {
            Due.is("bag(" + one[0] + ", " + one[1] + ")", room.bag(one[0], one[1]), one[2]);
        }
        room.tick(10);
        Due.is("they went", room.bag(1, 0), -1);
    }
}
