import java.math.BigInteger;
import java.util.Random;

/** Promise 6: price. */
public final class TariffTest {
    public static void main(String[] args) {
        rules();
        zones();
        wrongInputs();
        againstPlainSums();
        Due.end("TariffTest");
    }

    private static void priced(String rules, int weight, int due) {
        Room room = Due.roomOf("office a 1 0 0;office b 2 0 99;office c 3 0 100;office d 4 999 999;"
            + "service s letter most 4000 " + rules + ";");
        Due.is("price by " + rules, room.price(0, weight, 0, 2), due);
    }

    private static void rules() {
        priced("", 1, 0);
        priced("base 7 base 5", 1, 12);
        priced("each 10 5 over 20", 20, 0);
        priced("each 10 5 over 20", 21, 5);
        priced("each 10 5 over 20", 30, 5);
        priced("each 10 5 over 20", 31, 10);
        priced("each 1 1 over 0", 4000, 4000);
        priced("zone 2 9", 1, 9);
        priced("zone 1 9 zone 0 9", 1, 0);
        priced("far 9", 1, 9);
        priced("base 7 up 5", 1, 10);
        priced("base 10 up 5", 1, 10);
        priced("base 7 up 0", 1, 7);
        priced("up 5", 1, 0);
        priced("base 7 least 9", 1, 9);
        priced("base 7 least 5", 1, 7);
        priced("base 7 cut 10", 1, 7);
        priced("base 10 cut 10", 1, 9);
        priced("base 19 cut 10", 1, 18);
        priced("base 199 cut 99", 1, 2);
        priced("base 1 cut 99", 1, 1);
        priced("cut 10 base 10", 1, 10);
        priced("each 1 250 over 0", 4000, 1000000);
        priced("each 1 251 over 0", 4000, 1000000);
        priced("each 1 9999 over 0 cut 99", 4000, 399960);
        priced("each 1 9999 over 0 each 1 9999 over 0 each 1 9999 over 0 each 1 9999 over 0 "
            + "each 1 9999 over 0 each 1 9999 over 0 each 1 9999 over 0 cut 99", 4000, 1000000);
    }

    private static void zones() {
        Room room = Due.roomOf("office a 1 100 100;office b 2 100 199;office c 3 200 100;office d 4 999 999;"
            + "office e 5 100 100;office f 6 50 51;office g 7 500 499;office h 8 500 500;service s letter most 10 far 1 zone 0 100;"
            + "service t letter most 10 zone 0 1 zone 1 2 zone 2 3 zone 9 10;");
        int[] far = {100, 0, 1, 8, 0, 0, 7, 8};
        int[] told = {1, 2, 3, 10, 2, 2, 0, 10};
        for (int i = 0; i < far.length; i++) {
            Due.is("far to " + i, room.price(0, 1, 0, i), far[i]);
            Due.is("far from " + i, room.price(0, 1, i, 0), far[i]);
            Due.is("zone to " + i, room.price(1, 1, 0, i), told[i]);
        }
    }

    private static void wrongInputs() {
        Room room = Due.roomOf(Due.BOOK);
        Due.is("weight 0", room.price(0, 0, 0, 0), -1);
        Due.is("weight -1", room.price(0, -1, 0, 0), -1);
        Due.is("weight 100", room.price(0, 100, 0, 0), 60);
        Due.is("weight 101", room.price(0, 101, 0, 0), -1);
        Due.is("greatest weight", room.price(0, Integer.MAX_VALUE, 0, 0), -1);
        Due.is("least weight", room.price(0, Integer.MIN_VALUE, 0, 0), -1);
        int[][] wrong = {{-1, 1, 0, 0}, {4, 1, 0, 0}, {0, 1, -1, 0}, {0, 1, 4, 0}, {0, 1, 0, -1}, {0, 1, 0, 4}, {0, 0, 0, 4},
            {Integer.MAX_VALUE, 1, 0, 0}, {0, 1, Integer.MIN_VALUE, 0}, {0, 1, 0, Integer.MAX_VALUE}};
        for (int[] w : wrong) {
            Due.fires("price", () -> room.price(w[0], w[1], w[2], w[3]), Due.ILLEGAL_ARGUMENT);
        }
    }

    private static void againstPlainSums() {
        Random random = new Random(3);
        for (int i = 0; i < 600; i++) {
            int x = random.nextInt(1000);
            int y = random.nextInt(1000);
            int[][] rules = new int[1 + random.nextInt(8)][4];
            StringBuilder text = new StringBuilder("office a 1 0 0;office b 2 " + x + " " + y + ";service s parcel most 4000");
            for (int[] rule : rules) {
                rule[0] = random.nextInt(7);
                rule[1] = random.nextInt(random.nextBoolean() ? 20 : 10000);
                rule[2] = 1 + random.nextInt(9);
                rule[3] = random.nextInt(100);
                String[] words = {" base P", " each G P over V", " zone G P", " far P", " up P", " least P", " cut Q"};
                rule[1] = rule[0] == 6 ? 1 + rule[1] % 99 : rule[1];
                text.append(words[rule[0]].replace("P", "" + rule[1]).replace("G", "" + rule[2])
                    .replace("V", "" + rule[3]).replace("Q", "" + rule[1]));
            }
            Room room = Due.roomOf(text + ";");
            for (int k = 0; k < 5; k++) {
                int weight = 1 + random.nextInt(k < 3 ? 200 : 4000);
                int to = random.nextInt(2);
                int zone = to == 0 ? 0 : Math.min(9, 1 + (x + y) / 100);
                Due.is("price of " + text, room.price(0, weight, 0, to), plain(rules, weight, zone));
            }
        }
    }

    private static int plain(int[][] rules, int weight, int zone) {
        BigInteger sum = BigInteger.ZERO;
        for (int[] rule : rules) {
            BigInteger p = BigInteger.valueOf(rule[1]);
            if (rule[0] == 0) {
                sum = sum.add(p);
            } else if (rule[0] == 1) {
                for (int above = weight - rule[3]; above > 0; above -= rule[2]) {
                    sum = sum.add(p);
                }
            } else if (rule[0] == 2) {
                sum = zone == rule[2] ? sum.add(p) : sum;
            } else if (rule[0] == 3) {
                for (int z = 2; z <= zone; z++) {
                    sum = sum.add(p);
                }
            } else if (rule[0] == 4) {
                BigInteger rest = rule[1] == 0 ? BigInteger.ZERO : sum.mod(p);
                sum = rest.signum() == 0 ? sum : sum.add(p).subtract(rest);
            } else if (rule[0] == 5) {
                sum = sum.max(p);
            } else {
                sum = sum.subtract(sum.multiply(p).divide(BigInteger.valueOf(100)));
            }
        }
        return sum.min(BigInteger.valueOf(1000000)).intValue();
    }
}
