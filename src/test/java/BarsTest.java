import java.util.Random;

/** Promises 9, 10 and 11: bar, read, mended. */
public final class BarsTest {
    public static void main(String[] args) {
        signs();
        wrongInputs();
        mended();
        tooWrong();
        againstAllRows();
        Due.end("BarsTest");
    }

    private static int times(int a, int b) {
        int product = 0;
        for (int i = 0; i < 6; i++) {
            product ^= (b >> i & 1) != 0 ? a << i : 0;
        }
        for (int i = 11; i >= 6; i--) {
            product ^= (product >> i & 1) != 0 ? 0b1000011 << i - 6 : 0;
        }
        return product;
    }

    private static int valueAt(int[] signs, int power) {
        int x = 1;
        for (int i = 0; i < power; i++) {
            x = times(x, 2);
        }
        int sum = 0;
        int y = 1;
        for (int i = 10; i >= 0; i--) {
            sum ^= times(signs[i], y);
            y = times(y, x);
        }
        return sum;
    }

    private static boolean isRow(int[] signs) {
        return valueAt(signs, 1) == 0 && valueAt(signs, 2) == 0 && valueAt(signs, 3) == 0 && valueAt(signs, 4) == 0;
    }

    private static int[] signsOf(String bars) {
        int[] signs = new int[11];
        for (int i = 0; i < 33; i++) {
            signs[i / 3] = signs[i / 3] * 4 + bars.charAt(i) - '0';
        }
        return signs;
    }

    private static String barsOf(int[] signs, int unknown, Random random) {
        StringBuilder bars = new StringBuilder();
        for (int i = 0; i < 11; i++) {
            int hidden = (unknown >> i & 1) == 0 ? 0 : 1 + random.nextInt(7);
            for (int k = 0; k < 3; k++) {
                bars.append((hidden >> k & 1) != 0 ? '?' : (char) ('0' + (signs[i] >> 4 - 2 * k & 3)));
            }
        }
        return bars.toString();
    }

    private static PostRoom someItems() {
        PostRoom room = Due.roomOf(Due.BOOK);
        for (int i = 0; i < 80; i++) {
            Due.is("accept", Due.accept(room, 1, 1 + 49 * i, i % 4, i % 2 == 0 ? "9 hill 909" : "7 station rd 202"), i);
        }
        return room;
    }

    private static void signs() {
        PostRoom room = someItems();
        for (int i = 0; i < 80; i++) {
            int[] signs = signsOf(Due.bars(room, i));
            int code = i % 2 == 0 ? 909 : 202;
            int weight = 1 + 49 * i;
            int[] due = {1, code / 64, code % 64, i / 64, i % 64, weight / 64, weight % 64};
            for (int k = 0; k < due.length; k++) {
                Due.is("sign " + k + " of " + i, signs[k], due[k]);
            }
            Due.is("checks of " + i, isRow(signs) ? 1 : 0, 1);
            Due.is("read " + i, Due.read(room, Due.bars(room, i)), i);
            Due.is("mended", room.mended(), 0);
        }
    }

    private static void wrongInputs() {
        PostRoom room = Due.roomOf(Due.BOOK);
        Due.is("accept", Due.accept(room, 0, 5, 0, "9 hill 909"), 0);
        int[][] wrong = {{-1, 0}, {1, 0}, {0, -1}, {0, 33}, {Integer.MAX_VALUE, 0}, {0, Integer.MIN_VALUE}};
        for (int[] w : wrong) {
            Due.fires("bar", () -> room.bar(w[0], w[1]), Due.NO_ELEMENT);
        }
        String bars = Due.bars(room, 0);
        String[] texts = {"", bars.substring(1), bars + "0", bars.substring(1) + "4", bars.substring(1) + " ",
            bars.substring(1) + "\n", bars.substring(1) + "/", bars.substring(1) + "a"};
        for (String text : texts) {
            Due.is("read " + text, Due.read(room, text), -3);
            Due.is("taken", room.count(16), 0);
            Due.is("mended", room.mended(), -1);
        }
        Due.is("nothing is read", Due.read(room, "???????????????" + bars.substring(15)), -1);
        Due.is("mended", room.mended(), -1);
        Due.is("nothing has it", Due.read(room, "000000000000000000000000000000000"), -2);
        Due.is("mended", room.mended(), 0);
        Due.is("one bar", Due.read(room, "?" + bars.substring(1)), 0);
        Due.is("mended", room.mended(), 1);
        Due.is("not bars", Due.read(room, "no"), -3);
        Due.is("mended stays", room.mended(), 1);
        Due.is("not read", Due.read(room, "???????????????" + bars.substring(15)), -1);
        Due.is("mended stays", room.mended(), 1);
    }

    private static void mended() {
        PostRoom room = someItems();
        Random random = new Random(11);
        String[] bars = new String[80];
        for (int i = 0; i < 80; i++) {
            bars[i] = Due.bars(room, i);
        }
        for (int round = 0; round < 3000; round++) {
            int item = random.nextInt(80);
            int[] signs = signsOf(bars[item]);
            int e = random.nextInt(3);
            int u = random.nextInt(5 - 2 * e);
            int spoiled = 0;
            int unknown = 0;
            while (Integer.bitCount(spoiled) < e) {
                spoiled |= 1 << random.nextInt(11);
            }
            while (Integer.bitCount(unknown) < u) {
                unknown |= 1 << random.nextInt(11) & ~spoiled;
            }
            for (int i = 0; i < 11; i++) {
                signs[i] ^= (spoiled >> i & 1) != 0 ? 1 + random.nextInt(63) : 0;
            }
            Due.is("read of " + e + " wrong, " + u + " unknown", Due.read(room, barsOf(signs, unknown, random)), item);
            Due.is("mended", room.mended(), e + u);
        }
    }

    private static void tooWrong() {
        PostRoom room = someItems();
        Random random = new Random(12);
        String bars = Due.bars(room, 7);
        for (int round = 0; round < 300; round++) {
            int unknown = 0;
            while (Integer.bitCount(unknown) < 5) {
                unknown |= 1 << random.nextInt(11);
            }
            Due.is("five unknown", Due.read(room, barsOf(signsOf(bars), unknown, random)), -1);
        }
    }

    /** All ways of changing as few signs as may be changed are tried for rows that are quite wrong. */
    private static void againstAllRows() {
        PostRoom room = someItems();
        Random random = new Random(13);
        for (int round = 0; round < 200; round++) {
            int[] signs = signsOf(Due.bars(room, random.nextInt(80)));
            for (int i = 0; i < 3 + round % 2; i++) {
                signs[random.nextInt(11)] ^= random.nextInt(64);
            }
            int unknown = round % 3 == 0 ? 1 << random.nextInt(11) : 0;
            int due = plain(signs, unknown);
            PostRoom bare = Due.roomOf("office a 1 0 0;");
            int got = Due.read(bare, barsOf(signs, unknown, random));
            Due.is("read of wrong signs", got, due < 0 ? -1 : -2);
            Due.is("mended", bare.mended(), due);
        }
    }

    private static int plain(int[] signs, int unknown) {
        for (int i = 0; i < 11; i++) {
            for (int j = i; j < 11; j++) {
                if (unknown != 0 && (unknown >> i & 1) == 0 && (unknown >> j & 1) == 0) {
                    continue;
                }
                for (int changes = 0; changes < 4096; changes++) {
                    int[] row = signs.clone();
                    row[i] ^= changes / 64;
                    row[j] ^= changes % 64;
                    if (isRow(row)) {
                        int other = 0;
                        for (int k = 0; k < 11; k++) {
                            other += (unknown >> k & 1) != 0 || row[k] != signs[k] ? 1 : 0;
                        }
                        return other;
                    }
                }
            }
        }
        return -1;
    }
}
