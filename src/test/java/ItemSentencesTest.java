/** Terms 5 (ITEMS), of ITEMS and the LOG; promises 8, 23, 24 and 26; each sentence that names an edge by itself. */
public final class ItemSentencesTest {
    private static final String TERMS = "Terms 5, ITEMS";
    private static final int MIN = Integer.MIN_VALUE;
    private static final int MAX = Integer.MAX_VALUE;
    private static final String BOOK = "office a 1 0 0;office b 2 0 150;street s in a from 1 to 9 at 1 0 e walk 0;"
        + "street t in b from 1 to 9 at 0 150 e walk 0;street tt in b from 1 to 9 at 0 150 e walk 0;"
        + "service p letter most 9 base 3;service r register most 99 base 5 zone 2 7;service q parcel most 9 base 1;"
        + "coach a b first 10 every 1440 last 10 takes 5 holds 9;coach b a first 20 every 1440 last 20 takes 5 holds 9;";
    private static final String TO_A = "1 s 001";
    private static final String TO_B = "7c t 002";

    public static void main(String[] args) {
        numbers();
        shelfOrder();
        goal();
        states();
        accepted();
        acceptNone();
        acceptHeavy();
        acceptFull();
        acceptFirst();
        acceptThrows();
        itemTold();
        itemWhere();
        itemMinute();
        itemThrows();
        shelves();
        counts();
        countsWhere();
        countMore();
        countOther();
        sealAtFirst();
        logged();
        sealWraps();
        Due.end("ItemSentencesTest");
    }

    /** What SEAL becomes by one line of the LOG. */
    static int line(int seal, int item, int what, int office, int clock) {
        return (33 * seal + item + 8 * what + 64 * office + clock) % 65521;
    }

    private static void numbers() {
        Due.holds(TERMS, "5. ITEMS are 0 .. 199, in the order in which they are taken in:");
        Room room = Due.roomOf(BOOK);
        for (int i = 0; i < 200; i++) {
            Due.is("accept", Due.accept(room, 2, 1 + i % 9, 0, TO_A), i);
        }
        Due.is("no more", Due.accept(room, 2, 1, 0, TO_A), -4);
        Due.is("how many", room.count(5), 200);
        Due.is("weight of 0", room.item(0, 1), 1);
        Due.is("weight of 199", room.item(199, 1), 2);
        Due.fires("200", () -> room.item(200, 1), Due.NO_ELEMENT);
    }

    private static void shelfOrder() {
        Due.holds(TERMS, "0 on the SHELF of an office (behind those that are there),");
        Room room = Due.roomOf(BOOK);
        int[] from = {0, 1, 0, 0, 1};
        for (int i = 0; i < from.length; i++) {
            Due.is("accept", Due.accept(room, 0, 1, from[i], TO_B), i);
        }
        int[] due = {0, 2, 3, -1};
        for (int k = 0; k < due.length; k++) {
            Due.is("SHELF of a, " + k, room.shelf(0, k), due[k]);
        }
        room.sort(0);
        room.tick(15);
        int[] behind = {1, 4, 0, 2, 3, -1};
        for (int k = 0; k < behind.length; k++) {
            Due.is("SHELF of b, " + k, room.shelf(1, k), behind[k]);
        }
    }

    private static void goal() {
        Due.holds(TERMS, "service, weight, the office it is from, PIECE, DOOR; it GOES TO the PIECE's office.");
        Room room = Due.roomOf(BOOK);
        Due.accept(room, 1, 7, 0, TO_B);
        Due.accept(room, 1, 8, 1, TO_A);
        isItem(room, 0, 1, 7, 0, 1, 192);
        isItem(room, 1, 1, 8, 1, 0, 27);
        Due.is("to b", room.sort(0), 1);
        Due.is("to a", room.sort(1), 1);
        Due.is("by coach 0", room.item(0, 7), 0);
        Due.is("by coach 1", room.item(1, 7), 1);
        Due.is("the price is that to b", room.item(0, 8), 12);
    }

    private static void states() {
        Due.holds(TERMS, "Each is somewhere: 0 on the SHELF of an office (behind those that are there), "
            + "1 in the BAG of a coach (likewise; it lies at its first office), 2 in a COACH, 3 delivered, 4 back.");
        Room room = World.make();
        int[] where = {2, 3, 4, 1, 0};
        int[] office = {1, 0, 0, 0, 0};
        int[] coach = {0, -1, -1, 0, -1};
        for (int i = 0; i < World.ITEMS; i++) {
            Due.is("where " + i + " is", room.item(i, 5), where[i]);
            Due.is("office of " + i, room.item(i, 6), office[i]);
            Due.is("coach of " + i, room.item(i, 7), coach[i]);
        }
        Due.is("on the SHELF", room.shelf(0, 0), 4);
        Due.is("alone", room.shelf(0, 1), -1);
        Due.is("in the BAG", room.bag(0, 0), 3);
        Due.is("alone", room.bag(0, 1), -1);
    }

    private static void accepted() {
        Due.holds("Promise 8: accept", "The TAPE is an ADDRESS: an ITEM more, on that office's SHELF: its number.");
        Room room = Due.roomOf(BOOK);
        Due.is("the first", Due.accept(room, 0, 1, 1, TO_A), 0);
        Due.is("the second", Due.accept(room, 0, 9, 0, "9z S, 001"), 1);
        Due.is("as well as it can be found", Due.accept(room, 1, 99, 1, "1 x 001"), 2);
        Due.is("ITEMS", room.count(5), 3);
        Due.is("on the SHELF of b", room.shelf(1, 0), 0);
        Due.is("on the SHELF of b", room.shelf(1, 1), 2);
        Due.is("on the SHELF of a", room.shelf(0, 0), 1);
        Due.is("its DOOR", room.item(1, 4), 269);
    }

    private static void acceptNone() {
        Due.holds("Promise 8: accept", "NONE: as of find(), -2 likewise;");
        Room room = Due.roomOf(BOOK);
        String[] none = {"", "1", "1 s", "s 001", "1 nowhere 001", "10 s 001", "1 s 001" + " ".repeat(74)};
        for (String text : none) {
            Due.is("accept " + text, Due.accept(room, 0, 1, 0, text), -1);
        }
        Due.is("several", Due.accept(room, 0, 1, 0, "1 td 002"), -2);
        Due.is("nothing is taken in", room.count(5), 0);
        Due.is("as long as can be", Due.accept(room, 0, 1, 0, "1 s 001" + " ".repeat(73)), 0);
    }

    private static void acceptHeavy() {
        Due.holds("Promise 8: accept", "-3: the service does not take the weight;");
        Room room = Due.roomOf(BOOK);
        int[] weights = {0, -1, 10, MIN, MAX};
        for (int weight : weights) {
            Due.is("weight " + weight, Due.accept(room, 0, weight, 0, TO_A), -3);
        }
        Due.is("nothing is taken in", room.count(5), 0);
        Due.is("the least", Due.accept(room, 0, 1, 0, TO_A), 0);
        Due.is("the most", Due.accept(room, 0, 9, 0, TO_A), 1);
        Due.is("of another service", Due.accept(room, 1, 99, 0, TO_A), 2);
        Due.is("of another service", Due.accept(room, 1, 100, 0, TO_A), -3);
    }

    private static void acceptFull() {
        Due.holds("Promise 8: accept", "-4: 200 are there;");
        Room room = Due.roomOf(BOOK);
        for (int i = 0; i < 199; i++) {
            Due.accept(room, 0, 1, 0, TO_A);
        }
        Due.is("some are delivered", room.deliver(0, 0), 2);
        Due.is("and done with", room.count(9), 199);
        Due.is("the last one", Due.accept(room, 0, 1, 1, TO_A), 199);
        Due.is("200 are there", Due.accept(room, 0, 1, 0, TO_A), -4);
        Due.is("200 are there", Due.accept(room, 0, 1, 0, TO_B), -4);
        Due.is("nothing is taken in", room.count(5), 200);
        Due.is("prices", room.count(15), 600);
    }

    private static void acceptFirst() {
        Due.holds("Promise 8: accept", "the first of these that holds.");
        Room room = Due.roomOf(BOOK);
        Due.is("not found, too heavy", Due.accept(room, 0, 10, 0, "1 nowhere 001"), -1);
        Due.is("several, too heavy", Due.accept(room, 0, 10, 0, "1 td 002"), -2);
        for (int i = 0; i < 200; i++) {
            Due.accept(room, 0, 1, 0, TO_A);
        }
        Due.is("not found, too heavy, 200", Due.accept(room, 0, 10, 0, "1 nowhere 001"), -1);
        Due.is("several, 200", Due.accept(room, 0, 1, 0, "1 td 002"), -2);
        Due.is("too heavy, 200", Due.accept(room, 0, 10, 0, TO_A), -3);
        Due.is("200", Due.accept(room, 0, 9, 0, TO_A), -4);
    }

    private static void acceptThrows() {
        Due.holds("Promise 8: accept", "IllegalArgumentException: no such service, office.");
        Room room = Due.roomOf(BOOK);
        int[][] wrong = {{-1, 1, 0}, {3, 1, 0}, {0, 1, -1}, {0, 1, 2}, {8, 1, 0}, {0, 1, 16}, {MIN, 1, 0}, {MAX, 1, 0}, {0, 1, MIN}, {0, 1, MAX},
            {3, 0, 0}, {0, 0, 2}};
        for (int[] w : wrong) {
            Due.feed(room, TO_A);
            Due.fires("accept(" + w[0] + ", " + w[1] + ", " + w[2] + ")", () -> room.accept(w[0], w[1], w[2]), Due.ILLEGAL_ARGUMENT);
            Due.is("the TAPE is taken", room.count(16), 0);
            Due.fires("without an ADDRESS", () -> room.accept(w[0], w[1], w[2]), Due.ILLEGAL_ARGUMENT);
        }
        Due.is("nothing is taken in", room.count(5), 0);
        Due.is("the last ones", Due.accept(room, 2, 1, 1, TO_A), 0);
    }

    private static void isItem(Room room, int item, int... due) {
        for (int what = 0; what < due.length; what++) {
            Due.is("item(" + item + ", " + what + ")", room.item(item, what), due[what]);
        }
    }

    private static void itemTold() {
        Due.holds("Promise 23: item", "Of an ITEM, what 0: its service, 1 weight, 2 the office it is from, 3 its PIECE or NONE, "
            + "4 its DOOR's NUMBER (sent back: the one it had), 5 where it is (0 .. 4),");
        Room room = Due.roomOf(BOOK);
        room.tick(30);
        Due.is("accept", Due.accept(room, 1, 77, 0, TO_B), 0);
        Due.is("accept", Due.accept(room, 2, 9, 1, TO_A), 1);
        isItem(room, 0, 1, 77, 0, 1, 7 * 27 + 3, 0, 0, -1, 12, 0, 30);
        isItem(room, 1, 2, 9, 1, 0, 27, 0, 1, -1, 1, 0, 30);
        room.gone(0, 27);
        room.sort(1);
        room.tick(2990);
        Due.is("sent back", room.deliver(0, 0), -1);
        isItem(room, 1, 2, 9, 1, -1, 27, 0, 0, -1, 1, 0, 1465);
    }

    private static void itemWhere() {
        Due.holds("Promise 23: item", "6 the office where its SHELF or BAG is, of a COACH the second one, of what is over where that was, "
            + "7 the coach of its BAG or COACH, else NONE,");
        Room room = Due.roomOf(BOOK);
        Due.accept(room, 1, 5, 1, TO_A);
        isItem(room, 0, 1, 5, 1, 0, 27, 0, 1, -1);
        room.sort(1);
        isItem(room, 0, 1, 5, 1, 0, 27, 1, 1, 1);
        room.tick(20);
        isItem(room, 0, 1, 5, 1, 0, 27, 2, 0, 1);
        room.tick(5);
        isItem(room, 0, 1, 5, 1, 0, 27, 0, 0, -1);
        room.deliver(0, 0);
        isItem(room, 0, 1, 5, 1, 0, 27, 3, 0, -1);
        Due.accept(room, 1, 5, 1, TO_B);
        room.gone(1, 192);
        room.deliver(1, 0);
        isItem(room, 1, 1, 5, 1, -1, 192, 0, 1, -1);
        room.deliver(1, 10);
        isItem(room, 1, 1, 5, 1, -1, 192, 4, 1, -1);
    }

    private static void itemMinute() {
        Due.holds("Promise 23: item", "8 its price, 9 how often it was sent after, 10 the minute in which it came there (0 .. 4).");
        Room room = Due.roomOf(BOOK);
        room.tick(3);
        Due.accept(room, 1, 5, 0, TO_B);
        Due.is("on a SHELF", room.item(0, 10), 3);
        room.tick(1);
        room.sort(0);
        Due.is("in a BAG", room.item(0, 10), 4);
        room.tick(7);
        Due.is("in a COACH", room.item(0, 10), 10);
        room.tick(7);
        Due.is("on a SHELF", room.item(0, 10), 15);
        Due.moved(room, 1, 192, "2 t 002");
        room.deliver(1, 0);
        Due.is("sent after once", room.item(0, 9), 1);
        Due.is("it stays where it came", room.item(0, 10), 15);
        Due.is("its price stays", room.item(0, 8), 12);
        room.tick(10);
        room.deliver(1, 0);
        Due.is("delivered", room.item(0, 5), 3);
        Due.is("when", room.item(0, 10), 28);
        Due.is("price", room.item(0, 8), 12);
        Due.is("still once", room.item(0, 9), 1);
        Due.accept(room, 0, 5, 0, TO_A);
        room.gone(0, 27);
        room.deliver(0, 0);
        Due.is("never sent after", room.item(1, 9), 0);
        room.tick(2);
        room.deliver(0, 10);
        Due.is("back", room.item(1, 10), 30);
    }

    private static void itemThrows() {
        Due.holds("Promise 23: item", "NoSuchElementException: no such ITEM, what.");
        Room room = Due.roomOf(BOOK);
        Due.fires("no ITEM", () -> room.item(0, 0), Due.NO_ELEMENT);
        Due.accept(room, 1, 5, 0, TO_B);
        Due.accept(room, 1, 5, 0, TO_B);
        int[][] wrong = {{-1, 0}, {2, 0}, {0, -1}, {0, 11}, {1, 11}, {200, 0}, {MIN, 0}, {MAX, 0}, {0, MIN}, {0, MAX}, {2, 11}};
        for (int[] w : wrong) {
            Due.fires("item(" + w[0] + ", " + w[1] + ")", () -> room.item(w[0], w[1]), Due.NO_ELEMENT);
        }
        Due.is("the last ones", room.item(1, 10), 0);
    }

    private static void shelves() {
        Due.holds("Promise 24: shelf", "The ITEM in a place of an office's SHELF; NONE.");
        Room room = Due.roomOf(BOOK);
        Due.is("an empty one", room.shelf(1, 0), -1);
        Due.accept(room, 1, 5, 1, TO_B);
        Due.accept(room, 1, 5, 1, TO_B);
        int[][] all = {{1, 0, 0}, {1, 1, 1}, {1, 2, -1}, {1, -1, -1}, {0, 0, -1}, {2, 0, -1}, {-1, 0, -1}, {16, 0, -1}, {MIN, 0, -1},
            {MAX, 0, -1}, {1, MIN, -1}, {1, MAX, -1}};
        for (int[] one : all) {
            Due.is("shelf(" + one[0] + ", " + one[1] + ")", room.shelf(one[0], one[1]), one[2]);
        }
        Due.is("both are delivered", room.deliver(1, 0), 12);
        Due.is("no more there", room.shelf(1, 0), -1);
    }

    private static void counts() {
        Due.holds("Promise 26: count", "What 0: offices, 1: PIECES, 2: services, 3: coaches, 4: the CLOCK, 5: ITEMS,");
        Room room = Due.roomOf(BOOK);
        int[] due = {2, 3, 3, 2, 0, 0};
        for (int what = 0; what < due.length; what++) {
            Due.is("count(" + what + ")", room.count(what), due[what]);
        }
        room.tick(9);
        Due.accept(room, 1, 5, 0, TO_B);
        Due.is("the CLOCK", room.count(4), 9);
        Due.is("ITEMS", room.count(5), 1);
    }

    private static void countsWhere() {
        Due.holds("Promise 26: count", "6 .. 10: those that are 0 .. 4, 11: MOVED DOORS,");
        Room room = World.make();
        for (int what = 6; what <= 10; what++) {
            Due.is("count(" + what + ")", room.count(what), 1);
        }
        Due.is("of all", room.count(5), 5);
        Due.is("MOVED and GONE", room.count(11), 2);
        room.tick(7);
        Due.is("on SHELVES", room.count(6), 2);
        Due.is("in COACHES", room.count(8), 0);
        Due.is("delivered", room.deliver(1, 0), 12);
        Due.is("on SHELVES", room.count(6), 1);
        Due.is("delivered", room.count(9), 2);
    }

    private static void countMore() {
        Due.holds("Promise 26: count", "12: SEAL, 13: STEPS of all runs, 14: those of the latest, 15: prices of all ITEMS, "
            + "16: signs on the TAPE, 17: COACHES under way.");
        Room room = World.make();
        Due.is("STEPS", room.count(13), World.RUN_STEPS);
        Due.is("STEPS", room.count(14), World.RUN_STEPS);
        Due.is("run", room.run(0, 4), 10);
        Due.is("STEPS", room.count(13), World.RUN_STEPS + 4);
        Due.is("STEPS", room.count(14), 4);
        Due.is("prices", room.count(15), 4 * 60 + 20);
        Due.is("signs", room.count(16), 0);
        Due.feed(room, "seven");
        Due.is("signs", room.count(16), 5);
        Due.is("under way", room.count(17), 1);
        Room full = Due.roomOf(BOOK.replace("every 1440 last 10 takes 5 holds 9", "every 1 last 1439 takes 50 holds 2"));
        for (int i = 0; i < 5; i++) {
            Due.accept(full, 1, 5, 0, TO_B);
        }
        full.sort(0);
        int[] due = {0, 1, 2, 3, 3};
        full.tick(9);
        for (int i = 0; i < due.length; i++) {
            Due.is("under way at " + (9 + i), full.count(17), due[i]);
            full.tick(1);
        }
        full.tick(45);
        Due.is("at 59", full.count(17), 3);
        full.tick(1);
        Due.is("at 60", full.count(17), 2);
    }

    private static void countOther() {
        Due.holds("Promise 26: count", "NONE for another what.");
        Room room = World.make();
        int[] others = {-1, 18, 19, 100, MIN, MAX};
        for (int what : others) {
            Due.is("count(" + what + ")", room.count(what), -1);
        }
    }

    private static void sealAtFirst() {
        Due.holds(TERMS, "The LOG: of each ITEM whose service's SORT is register:");
        Room room = Due.roomOf(BOOK);
        Due.is("SEAL at first", room.count(12), 7);
        Due.accept(room, 0, 5, 0, TO_B);
        Due.accept(room, 2, 5, 0, TO_B);
        room.sort(0);
        room.tick(15);
        Due.is("delivered", room.deliver(1, 0), 12);
        Due.is("no letter, no parcel", room.count(12), 7);
        Due.accept(room, 1, 5, 1, TO_B);
        Due.is("a register", room.count(12), line(7, 2, 0, 1, 15));
    }

    private static void logged() {
        Due.holds(TERMS, "as it is taken in (0), comes into a BAG (1), a COACH (2), on a SHELF from that (3), is delivered (4), back (5), "
            + "sent after (6), sent back (7): SEAL, 7 at first, becomes (33 * SEAL + ITEM + 8 * what + 64 * office + the CLOCK) modulo 65521; "
            + "office: where that is (of 2 the coach's first one); the CLOCK of that minute.");
        Room room = Due.roomOf(BOOK);
        Due.accept(room, 0, 5, 0, TO_A);
        Due.accept(room, 1, 5, 1, TO_A);
        int seal = line(7, 1, 0, 1, 0);
        Due.is("taken in", room.count(12), seal);
        room.tick(3);
        room.sort(1);
        seal = line(seal, 1, 1, 1, 3);
        Due.is("into a BAG", room.count(12), seal);
        room.tick(18);
        seal = line(seal, 1, 2, 1, 20);
        Due.is("into a COACH", room.count(12), seal);
        room.tick(9);
        seal = line(seal, 1, 3, 0, 25);
        Due.is("on a SHELF", room.count(12), seal);
        Due.moved(room, 0, 27, "2 s 001");
        Due.is("that a DOOR is MOVED is not in it", room.count(12), seal);
        room.deliver(0, 0);
        seal = line(seal, 1, 6, 0, 30);
        Due.is("sent after", room.count(12), seal);
        room.tick(1);
        room.deliver(0, 0);
        seal = line(seal, 1, 4, 0, 31);
        Due.is("delivered", room.count(12), seal);
        Due.accept(room, 1, 5, 1, TO_B);
        seal = line(seal, 2, 0, 1, 31);
        room.gone(1, 192);
        room.deliver(1, 0);
        seal = line(seal, 2, 7, 1, 31);
        Due.is("sent back", room.count(12), seal);
        room.tick(1);
        room.deliver(1, 10);
        seal = line(seal, 2, 5, 1, 32);
        Due.is("back", room.count(12), seal);
        Due.accept(room, 1, 5, 1, TO_A);
        seal = line(seal, 3, 0, 1, 32);
        Due.programme(room, "bag shelf 0,1;");
        Due.is("run", room.run(1, 1), 0);
        seal = line(seal, 3, 1, 1, 32);
        Due.is("into a BAG by a programme", room.count(12), seal);
    }

    private static void sealWraps() {
        Due.holds(TERMS, "modulo 65521;");
        Room room = Due.roomOf(BOOK);
        int seal = 7;
        for (int i = 0; i < 120; i++) {
            Due.accept(room, 1, 5, i % 2, TO_B);
            seal = line(seal, i, 0, i % 2, 3 * i);
            Due.is("SEAL " + i, room.count(12), seal);
            room.tick(3);
        }
    }
}
