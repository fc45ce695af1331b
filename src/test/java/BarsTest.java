import java.util.Random;

/** Promises 9, 10 and 11, against a plain field of 64 and a plain division by the polynomial of the four zeros. */
public final class BarsTest {
    private static final String BOOK = "office o 909 0 0;office p 202 0 0;street s in o from 1 to 9 at 0 0 e walk 0;"
        + "street t in p from 1 to 9 at 0 0 e walk 0;service a letter most 1;service b parcel most 4000;";
    private static final int MANY = 80;
    private static final int CALLS_OF_A_READ = 4;

    public static void main(String[] args) {
        signs();
        lastItem();
        mended();
        fiveUnknown();
        againstAllRows();
        Due.end("BarsTest");
    }

    static int times(int a, int b) {
        int product = 0;
        for (int i = 0; i < 6; i++) {
            product ^= (b >> i & 1) != 0 ? a << i : 0;
        }
        for (int i = 11; i >= 6; i--) {
            product ^= (product >> i & 1) != 0 ? 0b1000011 << i - 6 : 0;
        }
        return product;
    }

    /** a is z, the number 2, so that its first powers are these. */
    private static int power(int exponent) {
        return 1 << exponent;
    }

    private static int valueAt(int[] signs, int power) {
        int sum = 0;
        int y = 1;
        for (int i = 10; i >= 0; i--) {
            sum ^= times(signs[i], y);
            y = times(y, power(power));
        }
        return sum;
    }

    static boolean isRow(int[] signs) {
        return valueAt(signs, 1) == 0 && valueAt(signs, 2) == 0 && valueAt(signs, 3) == 0 && valueAt(signs, 4) == 0;
    }

    /** The checks are the rest by the polynomial that is 0 at a, a^2, a^3 and a^4 alone. */
    static int[] rowOf(int service, int code, int number, int weight) {
        int[] zeros = {1, 0, 0, 0, 0};
        for (int k = 1; k <= 4; k++) {
            for (int i = k; i > 0; i--) {
                zeros[i] ^= times(zeros[i - 1], power(k));
            }
        }
        int[] row = {service, code / 64, code % 64, number / 64, number % 64, weight / 64, weight % 64, 0, 0, 0, 0};
        int[] rest = row.clone();
        for (int i = 0; i < 7; i++) {
            int by = rest[i];
            for (int k = 0; k <= 4; k++) {
                rest[i + k] ^= times(by, zeros[k]);
            }
        }
        System.arraycopy(rest, 7, row, 7, 4);
        Due.is("a row of signs", isRow(row) ? 1 : 0, 1);
        return row;
    }

    static String barsOf(int[] signs) {
        return barsOf(signs, 0, null);
    }

    private static String barsOf(int[] signs, int unknown, Random random) {
        StringBuilder bars = new StringBuilder();
        for (int i = 0; i < 11; i++) {
            int hidden = (unknown >> i & 1) == 0 ? 0 : 1 + random.nextInt(7);
            for (int k = 0; k < 3; k++) {
                bars.append((hidden >> k & 1) != 0 ? '?' : (char) ('0' + (signs[i] >> 4 - 2 * k & 3)));
            }
        }
        return bars.toString();
    }

    private static int weightOf(int i) {
        return 1 + 49 * i;
    }

    private static int[] row(int i) {
        return rowOf(1, i % 2 == 0 ? 909 : 202, i, weightOf(i));
    }

    private static Room someItems(int many) {
        Room room = Due.roomOf(BOOK);
        for (int i = 0; i < many; i++) {
            Due.is("accept", Due.accept(room, 1, weightOf(i), i % 2, i % 2 == 0 ? "9 s 909" : "7 t 202"), i);
        }
        return room;
    }

    private static void signs() {
        for (int from = 0; from < MANY; from += 8) {
            Room room = someItems(from + 8);
            for (int i = from; i < from + 8; i++) {
                String due = barsOf(row(i));
                if (room.callsLeft() < 40) {
                    room = someItems(from + 8);
                }
                Due.is("bars of " + i, Due.bars(room, i).equals(due) ? 1 : 0, 1);
                Due.is("read " + i, Due.read(room, due), i);
                Due.is("mended", room.mended(), 0);
            }
        }
    }

    private static void lastItem() {
        Room room = Due.roomOf("office o 9 0 0;street s in o from 1 to 9 at 0 0 e walk 0;service a letter most 64;");
        for (int i = 0; i < 200; i++) {
            Due.accept(room, 0, 64, 0, "9 s 009");
        }
        String due = barsOf(rowOf(0, 9, 199, 64));
        Due.is("bars of 199", Due.bars(room, 199).equals(due) ? 1 : 0, 1);
        Due.is("read 199", Due.read(room, due), 199);
    }

    private static void mended() {
        Room room = someItems(MANY);
        Random random = new Random(11);
        for (int round = 0; round < 3000; round++) {
            int item = random.nextInt(MANY);
            int[] signs = row(item);
            int e = random.nextInt(3);
            int u = random.nextInt(5 - 2 * e);
            int spoiled = 0;
            int unknown = 0;
            while (Integer.bitCount(spoiled) < e) {
                spoiled |= 1 << random.nextInt(11);
            }
            while (Integer.bitCount(unknown) < u) {
                unknown |= 1 << random.nextInt(11) & ~spoiled;
            }
            for (int i = 0; i < 11; i++) {
                signs[i] ^= (spoiled >> i & 1) != 0 ? 1 + random.nextInt(63) : 0;
            }
            if (room.callsLeft() < CALLS_OF_A_READ) {
                room = someItems(MANY);
            }
            Due.is("read of " + e + " wrong, " + u + " unknown", Due.read(room, barsOf(signs, unknown, random)), item);
            Due.is("mended", room.mended(), e + u);
        }
    }

    private static void fiveUnknown() {
        Room room = someItems(8);
        Random random = new Random(12);
        for (int round = 0; room.callsLeft() >= CALLS_OF_A_READ; round++) {
            int unknown = 0;
            while (Integer.bitCount(unknown) < 5) {
                unknown |= 1 << random.nextInt(11);
            }
            Due.is("five unknown", Due.read(room, barsOf(row(7), unknown, random)), -1);
        }
    }

    /** All ways of changing as few signs as may be changed are tried for rows that are quite wrong. */
    private static void againstAllRows() {
        Random random = new Random(13);
        for (int round = 0; round < 60; round++) {
            int[] signs = row(random.nextInt(MANY));
            for (int i = 0; i < 3 + round % 2; i++) {
                signs[random.nextInt(11)] ^= random.nextInt(64);
            }
            int unknown = round % 3 == 0 ? 1 << random.nextInt(11) : 0;
            int due = plain(signs, unknown);
            Room bare = Due.roomOf("office a 1 0 0;");
            int got = Due.read(bare, barsOf(signs, unknown, random));
            Due.is("read of wrong signs", got, due < 0 ? -1 : -2);
            Due.is("mended", bare.mended(), due);
        }
    }

    private static int plain(int[] signs, int unknown) {
        for (int i = 0; i < 11; i++) {
            for (int j = i; j < 11; j++) {
                if (unknown != 0 && (unknown >> i & 1) == 0 && (unknown >> j & 1) == 0) {
                    continue;
                }
                for (int changes = 0; changes < 4096; changes++) {
                    int[] row = signs.clone();
                    row[i] ^= changes / 64;
                    row[j] ^= changes % 64;
                    if (isRow(row)) {
                        int other = 0;
                        for (int k = 0; k < 11; k++) {
                            other += (unknown >> k & 1) != 0 || row[k] != signs[k] ? 1 : 0;
                        }
                        return other;
                    }
                }
            }
        }
        return -1;
    }
}
