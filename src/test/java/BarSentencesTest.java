/** Terms 4 (BARS) and promises 9 to 11, each sentence that names an edge by itself. */
public final class BarSentencesTest {
    private static final String TERMS = "Terms 4, BARS";
    private static final String BOOK = "office a 63 0 0;office b 64 0 0;office c 999 0 0;office d 1 0 0;street s in a from 1 to 9 at 0 0 e walk 0;"
        + "street t in b from 1 to 9 at 0 0 e walk 0;street u in c from 1 to 9 at 0 0 e walk 0;street v in d from 1 to 9 at 0 0 e walk 0;"
        + "service p letter most 4000;service q parcel most 4000;";
    private static final int[] CODES = {63, 64, 999, 1};
    private static final String ZEROS = "0".repeat(33);

    public static void main(String[] args) {
        signs();
        parts();
        manyItems();
        checks();
        stay();
        unknownSigns();
        asManyAsCanBe();
        anyTwo();
        tooMany();
        howMany();
        wrongInputs();
        notBars();
        itemRead();
        nothingRead();
        noItem();
        mended();
        mendedNone();
        Due.end("BarSentencesTest");
    }

    private static String address(int office) {
        return "1 " + (char) ('s' + office) + " " + (1000 + CODES[office] + "").substring(1);
    }

    /** Three ITEMS; the last one has the sign 0 in many places. */
    private static Room three() {
        Room room = Due.roomOf(BOOK);
        Due.is("accept", Due.accept(room, 1, 4000, 0, address(2)), 0);
        Due.is("accept", Due.accept(room, 0, 77, 0, address(1)), 1);
        Due.is("accept", Due.accept(room, 0, 1, 0, address(3)), 2);
        return room;
    }

    private static String bars(int item) {
        int[][] told = {{1, 999, 0, 4000}, {0, 64, 1, 77}, {0, 1, 2, 1}};
        return BarsTest.barsOf(BarsTest.rowOf(told[item][0], told[item][1], told[item][2], told[item][3]));
    }

    /** Other bars than there are in the signs told, all three of each. */
    private static String wrong(String bars, int... signs) {
        StringBuilder text = new StringBuilder(bars);
        for (int sign : signs) {
            for (int k = 3 * sign; k < 3 * sign + 3; k++) {
                text.setCharAt(k, (char) ('0' + (bars.charAt(k) - '0' ^ 1 + k % 3)));
            }
        }
        return text.toString();
    }

    private static String hidden(String bars, int... places) {
        StringBuilder text = new StringBuilder(bars);
        for (int place : places) {
            text.setCharAt(place, '?');
        }
        return text.toString();
    }

    private static void signs() {
        Due.holds(TERMS, "A sign is 0 .. 63: three bars 0 .. 3, the highest two bits first.");
        Room room = Due.roomOf(BOOK);
        int[] weights = {1, 2, 3, 4, 16, 27, 48, 63};
        for (int i = 0; i < weights.length; i++) {
            Due.is("accept", Due.accept(room, 0, weights[i], 0, address(3)), i);
            Due.is("the highest two bits of " + weights[i], room.bar(i, 18), weights[i] / 16);
            Due.is("the next two of " + weights[i], room.bar(i, 19), weights[i] / 4 % 4);
            Due.is("the lowest two of " + weights[i], room.bar(i, 20), weights[i] % 4);
        }
    }

    private static void parts() {
        Due.holds(TERMS, "An ITEM has 11 signs: its service; the CODE of the office that it GOES TO as it is taken in / 64, the rest; "
            + "its number / 64, the rest; its weight / 64, the rest;");
        Room room = Due.roomOf(BOOK);
        int[] weights = {1, 63, 64, 4000};
        for (int i = 0; i < 4; i++) {
            Due.is("accept", Due.accept(room, i % 2, weights[i], 3 - i, address(i)), i);
            int[] due = {i % 2, CODES[i] / 64, CODES[i] % 64, 0, i, weights[i] / 64, weights[i] % 64};
            for (int k = 0; k < 21; k++) {
                Due.is("bar " + k + " of " + i, room.bar(i, k), due[k / 3] >> 4 - k % 3 * 2 & 3);
            }
        }
    }

    private static void manyItems() {
        Due.holds(TERMS, "its number / 64, the rest;");
        Room room = Due.roomOf("office a 9 0 0;street s in a from 1 to 9 at 0 0 e walk 0;service p letter most 9;");
        for (int i = 0; i < 200; i++) {
            Due.accept(room, 0, 9, 0, "9 s a");
        }
        int[] numbers = {0, 63, 64, 127, 128, 199};
        for (int number : numbers) {
            for (int k = 9; k < 15; k++) {
                int sign = k < 12 ? number / 64 : number % 64;
                Due.is("bar " + k + " of " + number, room.bar(number, k), sign >> 4 - k % 3 * 2 & 3);
            }
        }
        Due.is("read the last one", Due.read(room, BarsTest.barsOf(BarsTest.rowOf(0, 9, 199, 9))), 199);
    }

    private static void checks() {
        Due.holds(TERMS, "four CHECKS, such that the polynomial whose coefficients the 11 signs are, that of x^10 first, is 0 at a, a^2, a^3, a^4, "
            + "signs being numbers of the field of 64: bits are the coefficients of z^5 .. 1, modulo z^6 + z + 1 and 2; a is z.");
        Room room = three();
        for (int i = 0; i < 3; i++) {
            String due = bars(i);
            for (int k = 0; k < 33; k++) {
                Due.is("bar " + k + " of " + i, room.bar(i, k), due.charAt(k) - '0');
            }
        }
        int[] signs = new int[11];
        for (int k = 0; k < 33; k++) {
            signs[k / 3] = signs[k / 3] * 4 + room.bar(0, k);
        }
        Due.is("0 at all four", BarsTest.isRow(signs), true);
    }

    private static void stay() {
        Due.holds(TERMS, "(Bars stay as they were, whatever becomes of the ITEM.)");
        Room room = Due.roomOf(BOOK + "coach a b first 5 every 1440 last 5 takes 5 holds 9;");
        Due.is("accept", Due.accept(room, 1, 4000, 0, address(0)), 0);
        String first = BarsTest.barsOf(BarsTest.rowOf(1, 63, 0, 4000));
        Due.is("bars", Due.bars(room, 0), first);
        Due.is("moved", Due.moved(room, 0, 27, address(1)), true);
        Due.is("sent after", room.deliver(0, 0), -1);
        Due.is("it has another PIECE", room.item(0, 3), 1);
        Due.is("bars behind that", Due.bars(room, 0), first);
        Due.is("in a BAG", room.sort(0), 1);
        Due.is("it goes", room.tick(5), 5);
        Due.is("in a COACH", room.item(0, 5), 2);
        Due.is("bars in it", Due.bars(room, 0), first);
        Due.is("it comes", room.tick(5), 10);
        Due.is("gone", room.gone(1, 27), true);
        Due.is("sent back", room.deliver(1, 0), -1);
        Due.is("bars behind that", Due.bars(room, 0), first);
        Due.is("it is READ", Due.read(room, first), 0);
    }

    private static void unknownSigns() {
        Due.holds(TERMS, "READING 33 bars, some of them unknown: a sign with an unknown bar is unknown.");
        Room room = three();
        for (int k = 0; k < 33; k++) {
            Due.is("bar " + k, Due.read(room, hidden(bars(0), k)), 0);
            Due.is("one sign", room.mended(), 1);
        }
        Due.is("two bars of one sign", Due.read(room, hidden(bars(1), 3, 5)), 1);
        Due.is("are one sign", room.mended(), 1);
        Due.is("three bars of one sign", Due.read(room, hidden(bars(1), 3, 4, 5)), 1);
        Due.is("are one sign", room.mended(), 1);
        Due.is("the other bars of it are wrong", Due.read(room, hidden(wrong(bars(1), 1, 4, 8, 10), 3, 14, 25, 31)), 1);
        Due.is("but unknown", room.mended(), 4);
    }

    /** What can be read with so many signs wrong and so many unknown, wherever these are. */
    private static void reads(Room room, int item, int e, int u, boolean isRead) {
        for (int shift = 0; shift < 11; shift++) {
            int[] spoiled = new int[e];
            int[] unknown = new int[u];
            for (int i = 0; i < e; i++) {
                spoiled[i] = (shift + 3 * i) % 11;
            }
            for (int i = 0; i < u; i++) {
                unknown[i] = (shift + 3 * (e + i)) % 11 * 3 + i % 3;
            }
            String text = hidden(wrong(bars(item), spoiled), unknown);
            Due.is(e + " wrong, " + u + " unknown: " + text, Due.read(room, text) == item, isRead);
            if (isRead) {
                Due.is("mended", room.mended(), e + u);
            }
        }
    }

    private static void asManyAsCanBe() {
        Due.holds(TERMS, "If there is a row of 11 signs with that property that is other than what is there in e known signs, u being unknown, "
            + "with 2 e + u at most 4 (there is one at most), it is READ:");
        int[][] all = {{0, 0}, {0, 1}, {0, 2}, {0, 3}, {0, 4}, {1, 0}, {1, 1}, {1, 2}, {2, 0}};
        for (int[] one : all) {
            reads(three(), 0, one[0], one[1], true);
            reads(three(), 2, one[0], one[1], true);
        }
        Room room = three();
        for (int i = 0; i < 11; i++) {
            for (int sign = 1; sign < 64; sign *= 2) {
                StringBuilder text = new StringBuilder(bars(1));
                for (int k = 0; k < 3; k++) {
                    text.setCharAt(3 * i + k, (char) ('0' + (bars(1).charAt(3 * i + k) - '0' ^ sign >> 4 - 2 * k & 3)));
                }
                Due.is("sign " + i + " other by " + sign, Due.read(room, text.toString()), 1);
            }
        }
    }

    private static void anyTwo() {
        Due.holds(TERMS, "with 2 e + u at most 4 (there is one at most), it is READ:");
        for (int i = 0; i < 11; i++) {
            Room room = three();
            for (int j = 0; j < 11; j++) {
                if (j != i) {
                    Due.is("signs " + i + " and " + j + " wrong", Due.read(room, wrong(bars(0), i, j)), 0);
                    Due.is("mended", room.mended(), 2);
                    Due.is("sign " + i + " wrong, " + j + " unknown", Due.read(room, hidden(wrong(bars(1), i), 3 * j)), 1);
                    Due.is("mended", room.mended(), 2);
                }
            }
        }
    }

    private static void tooMany() {
        Due.holds(TERMS, "with 2 e + u at most 4");
        int[][] all = {{0, 5}, {1, 3}, {2, 1}, {3, 0}, {2, 2}, {1, 4}, {0, 6}, {0, 11}};
        for (int[] one : all) {
            reads(three(), 0, one[0], one[1], false);
        }
        Room room = three();
        Due.is("five unknown", Due.read(room, hidden(bars(0), 0, 3, 6, 9, 12)), -1);
        Due.is("five unknown", Due.read(room, hidden(bars(0), 20, 23, 26, 29, 32)), -1);
        Due.is("all unknown", Due.read(room, "?".repeat(33)), -1);
        Due.is("nothing was READ", room.mended(), -1);
    }

    private static void howMany() {
        Due.holds(TERMS, "e + u signs are mended.");
        Room room = three();
        Due.is("none", Due.read(room, bars(1)), 1);
        Due.is("mended", room.mended(), 0);
        Due.is("one wrong", Due.read(room, wrong(bars(1), 7)), 1);
        Due.is("mended", room.mended(), 1);
        Due.is("one wrong, one unknown", Due.read(room, hidden(wrong(bars(1), 7), 0)), 1);
        Due.is("mended", room.mended(), 2);
        Due.is("one wrong, two unknown", Due.read(room, hidden(wrong(bars(1), 10), 0, 3)), 1);
        Due.is("mended", room.mended(), 3);
        Due.is("an unknown bar is counted even if it is 0", Due.read(room, hidden(ZEROS, 0)), -2);
        Due.is("mended", room.mended(), 1);
        Due.is("four unknown", Due.read(room, hidden(bars(1), 0, 11, 20, 32)), 1);
        Due.is("mended", room.mended(), 4);
        Due.is("two wrong", Due.read(room, wrong(bars(1), 0, 10)), 1);
        Due.is("mended", room.mended(), 2);
    }

    private static void wrongInputs() {
        Due.holds("Promise 9: bar", "Bar i (0 .. 32) of an ITEM. NoSuchElementException: no such ITEM, bar.");
        Room room = three();
        int[][] wrong = {{-1, 0}, {3, 0}, {0, -1}, {0, 33}, {2, 33}, {199, 0}, {200, 0}, {Integer.MIN_VALUE, 0}, {Integer.MAX_VALUE, 0},
            {0, Integer.MIN_VALUE}, {0, Integer.MAX_VALUE}};
        for (int[] w : wrong) {
            Due.fires("bar(" + w[0] + ", " + w[1] + ")", () -> room.bar(w[0], w[1]), Due.NO_ELEMENT);
        }
        Due.is("the first bar of the first ITEM", room.bar(0, 0), bars(0).charAt(0) - '0');
        Due.is("the last bar of the last ITEM", room.bar(2, 32), bars(2).charAt(32) - '0');
        Due.fires("no ITEM", () -> Due.roomOf(BOOK).bar(0, 0), Due.NO_ELEMENT);
    }

    private static void notBars() {
        Due.holds("Promise 10: read", "The TAPE has 33 signs 0 1 2 3 or ?, bars from the first on, ? unknown (-3: it is not so):");
        Room room = three();
        String bars = bars(0);
        Due.is("no signs", Due.read(room, ""), -3);
        Due.is("one sign", Due.read(room, "0"), -3);
        Due.is("32 signs", Due.read(room, bars.substring(1)), -3);
        Due.is("34 signs", Due.read(room, bars + "0"), -3);
        Due.is("66 signs", Due.read(room, bars + bars), -3);
        Due.is("a blank behind", Due.read(room, bars + " "), -3);
        Due.is("a blank ahead", Due.read(room, " " + bars), -3);
        for (char sign = 10; sign < 127; sign++) {
            if (sign == 10 || sign >= 32 && "0123?".indexOf(sign) < 0) {
                Due.is("sign " + (int) sign, Due.read(room, bars.substring(1) + sign), -3);
            }
        }
        Due.is("nothing was READ", room.mended(), -1);
        Due.is("the first sign", Due.read(room, "4" + bars.substring(1)), -3);
        Due.is("as it should be", Due.read(room, bars), 0);
        Due.is("with an unknown one", Due.read(room, "?" + bars.substring(1)), 0);
    }

    private static void itemRead() {
        Due.holds("Promise 10: read", "the ITEM that has what is READ;");
        Room room = three();
        for (int i = 2; i >= 0; i--) {
            Due.is("ITEM " + i, Due.read(room, bars(i)), i);
            Due.is("ITEM " + i + ", mended", Due.read(room, hidden(wrong(bars(i), 3), 0, 32)), i);
        }
        Room twins = Due.roomOf(BOOK);
        for (int i = 0; i < 3; i++) {
            Due.accept(twins, 0, 5, 0, address(0));
        }
        Due.is("all is alike but the number", Due.read(twins, BarsTest.barsOf(BarsTest.rowOf(0, 63, 1, 5))), 1);
    }

    private static void nothingRead() {
        Due.holds("Promise 10: read", "NONE if nothing is;");
        Room room = three();
        Due.is("three are wrong", Due.read(room, "100000000000000002000000000001000"), -1);
        Due.is("five are unknown", Due.read(room, hidden(bars(0), 0, 3, 6, 9, 12)), -1);
        Due.is("without any ITEM", Due.read(new Room(), "?".repeat(33)), -1);
    }

    private static void noItem() {
        Due.holds("Promise 10: read", "-2 if no ITEM has that.");
        Room room = three();
        Due.is("the row of 0s", Due.read(room, ZEROS), -2);
        Due.is("mended", room.mended(), 0);
        Due.is("the row of 0s, two wrong", Due.read(room, "100000000000000002000000000000000"), -2);
        Due.is("mended", room.mended(), 2);
        Due.is("an ITEM that is not there", Due.read(room, BarsTest.barsOf(BarsTest.rowOf(0, 1, 3, 1))), -2);
        Due.is("another weight", Due.read(room, BarsTest.barsOf(BarsTest.rowOf(0, 1, 2, 2))), -2);
        Due.is("another CODE", Due.read(room, BarsTest.barsOf(BarsTest.rowOf(0, 2, 2, 1))), -2);
        Due.is("another service", Due.read(room, BarsTest.barsOf(BarsTest.rowOf(1, 1, 2, 1))), -2);
        Due.is("that ITEM", Due.read(room, BarsTest.barsOf(BarsTest.rowOf(0, 1, 2, 1))), 2);
        Due.is("in a new object", Due.read(new Room(), ZEROS), -2);
    }

    private static void mended() {
        Due.holds("Promise 11: mended", "How many signs the latest read() that READ something mended;");
        Room room = three();
        Due.is("read", Due.read(room, wrong(bars(0), 2, 5)), 0);
        Due.is("mended", room.mended(), 2);
        Due.is("not bars", Due.read(room, "12"), -3);
        Due.is("mended stays", room.mended(), 2);
        Due.is("nothing is READ", Due.read(room, "?".repeat(33)), -1);
        Due.is("mended stays", room.mended(), 2);
        Due.is("READ, but no ITEM has it", Due.read(room, hidden(ZEROS, 7)), -2);
        Due.is("mended", room.mended(), 1);
        Due.is("read", Due.read(room, bars(1)), 1);
        Due.is("mended", room.mended(), 0);
    }

    private static void mendedNone() {
        Due.holds("Promise 11: mended", "NONE if none did since the book.");
        Room room = Due.roomOf(BOOK);
        Due.is("at first", room.mended(), -1);
        Due.is("not bars", Due.read(room, "12"), -3);
        Due.is("nothing is READ", Due.read(room, "?".repeat(33)), -1);
        Due.is("none did", room.mended(), -1);
        Due.is("READ", Due.read(room, ZEROS), -2);
        Due.is("one did", room.mended(), 0);
        Due.is("a FAULT", Due.book(room, "x"), 1);
        Due.is("the same book", room.mended(), 0);
        Due.is("a book", Due.book(room, BOOK), 0);
        Due.is("none did since the book", room.mended(), -1);
    }
}
