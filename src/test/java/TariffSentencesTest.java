/** Terms 3 (TARIFFS) and promise 6, each sentence that names an edge by itself. */
public final class TariffSentencesTest {
    private static final String TERMS = "Terms 3, TARIFFS";
    /** From office 0 the others are 0, 99, 100, 199, 200, 799, 800, 1000 and 1998 away. */
    private static final String OFFICES = "office a 1 0 0;office b 2 0 0;office c 3 50 49;office d 4 50 50;office e 5 199 0;office f 6 0 200;"
        + "office g 7 400 399;office h 8 400 400;office i 9 500 500;office j 10 999 999;";
    private static final int[] ZONES = {0, 1, 1, 2, 2, 3, 8, 9, 9, 9};

    public static void main(String[] args) {
        zones();
        atFirst();
        inOrder();
        base();
        each();
        zone();
        far();
        up();
        upNothing();
        least();
        cut();
        exactly();
        dearest();
        weights();
        notTaken();
        wrongInputs();
        Due.end("TariffSentencesTest");
    }

    private static void priced(String rules, int weight, int to, int due) {
        Room room = Due.roomOf(OFFICES + "service s letter most 4000 " + rules + ";");
        Due.is("price by " + rules + " of " + weight, room.price(0, weight, 0, to), due);
    }

    private static void priced(String rules, int due) {
        priced(rules, 1, 0, due);
    }

    private static void zones() {
        Due.holds(TERMS, "The ZONE of two offices: 0 if they are one; else 1 and a hundredth (cut) of how much their X's and their Y's differ, added, "
            + "9 at most.");
        Room room = Due.roomOf(OFFICES + "service s letter most 9 zone 0 100 zone 1 101 zone 2 102 zone 3 103;"
            + "service t letter most 9 zone 4 4 zone 5 5 zone 6 6 zone 7 7 zone 8 8 zone 9 9;");
        for (int i = 0; i < ZONES.length; i++) {
            int low = ZONES[i] < 4 ? 100 + ZONES[i] : 0;
            int high = ZONES[i] < 4 ? 0 : ZONES[i];
            Due.is("ZONE to " + i, room.price(0, 1, 0, i), low);
            Due.is("ZONE from " + i, room.price(0, 1, i, 0), low);
            Due.is("ZONE to " + i, room.price(1, 1, 0, i), high);
            Due.is("ZONE from " + i, room.price(1, 1, i, 0), high);
            Due.is("ZONE of one office", room.price(0, 1, i, i), 100);
        }
        Room across = Due.roomOf("office a 1 0 999;office b 2 50 900;office c 3 50 950;service s letter most 9 far 1;");
        Due.is("X more, Y less: 149", across.price(0, 1, 0, 1), 1);
        Due.is("X more, Y less: 99", across.price(0, 1, 0, 2), 0);
        Due.is("X as it is, Y more: 50", across.price(0, 1, 1, 2), 0);
        Room near = Due.roomOf("office a 1 999 999;office b 2 949 950;office c 3 949 949;service s letter most 9 far 1;");
        Due.is("great X and Y: 99", near.price(0, 1, 0, 1), 0);
        Due.is("great X and Y: 100", near.price(0, 1, 0, 2), 1);
        Due.is("great X and Y: 1", near.price(0, 1, 1, 2), 0);
    }

    private static void atFirst() {
        Due.holds(TERMS, "A price is 0 at first;");
        priced("", 0);
        priced("cut 50", 0);
        priced("up 100", 0);
        priced("base 0", 0);
    }

    private static void inOrder() {
        Due.holds(TERMS, "by each RULE in order:");
        priced("base 10 cut 50", 5);
        priced("cut 50 base 10", 10);
        priced("base 7 up 5 base 1", 11);
        priced("base 7 base 1 up 5", 10);
        priced("least 9 base 2", 11);
        priced("base 2 least 9", 9);
        priced("base 1 base 2 base 3 base 4 base 5 base 6 base 7 cut 50", 14);
    }

    private static void base() {
        Due.holds(TERMS, "base: P more.");
        priced("base 9999", 9999);
        priced("base 1 base 1", 2);
        priced("base 9999 base 9999", 19998);
    }

    private static void each() {
        Due.holds(TERMS, "each: if the weight is above V, P more for each G of what it is above V that is begun.");
        priced("each 10 5 over 20", 1, 0, 0);
        priced("each 10 5 over 20", 19, 0, 0);
        priced("each 10 5 over 20", 20, 0, 0);
        priced("each 10 5 over 20", 21, 0, 5);
        priced("each 10 5 over 20", 29, 0, 5);
        priced("each 10 5 over 20", 30, 0, 5);
        priced("each 10 5 over 20", 31, 0, 10);
        priced("each 1 5 over 0", 1, 0, 5);
        priced("each 1 5 over 0", 2, 0, 10);
        priced("each 1 5 over 1", 1, 0, 0);
        priced("each 1 7 over 3999", 4000, 0, 7);
        priced("each 1 7 over 4000", 4000, 0, 0);
        priced("each 4000 7 over 0", 1, 0, 7);
        priced("each 4000 7 over 0", 4000, 0, 7);
        priced("each 3999 7 over 0", 4000, 0, 14);
        priced("each 4000 7 over 4000", 1, 0, 0);
    }

    private static void zone() {
        Due.holds(TERMS, "zone: P more if the ZONE is Z.");
        for (int z = 0; z <= 9; z++) {
            for (int i = 0; i < ZONES.length; i++) {
                priced("base 1 zone " + z + " 50", 1, i, ZONES[i] == z ? 51 : 1);
            }
        }
    }

    private static void far() {
        Due.holds(TERMS, "far: P more for each ZONE above 1.");
        int[] due = {0, 0, 0, 7, 7, 14, 49, 56, 56, 56};
        for (int i = 0; i < due.length; i++) {
            priced("far 7", 1, i, due[i]);
        }
    }

    private static void up() {
        Due.holds(TERMS, "up: the least multiple of P that is not less");
        priced("base 9 up 5", 10);
        priced("base 10 up 5", 10);
        priced("base 11 up 5", 15);
        priced("base 1 up 9999", 9999);
        priced("base 9999 up 9999", 9999);
        priced("base 9999 base 1 up 9999", 19998);
        priced("base 7 up 1", 7);
        priced("up 7", 0);
    }

    private static void upNothing() {
        Due.holds(TERMS, "(as it is with P 0).");
        priced("base 7 up 0", 7);
        priced("up 0", 0);
        priced("base 7 up 0 base 1", 8);
    }

    private static void least() {
        Due.holds(TERMS, "least: P if it is less.");
        priced("base 8 least 9", 9);
        priced("base 9 least 9", 9);
        priced("base 10 least 9", 10);
        priced("least 9", 9);
        priced("base 7 least 0", 7);
    }

    private static void cut() {
        Due.holds(TERMS, "cut: less its Q hundredths (cut).");
        priced("base 100 cut 1", 99);
        priced("base 100 cut 99", 1);
        priced("base 10 cut 10", 9);
        priced("base 1000 cut 50", 500);
        priced("base 200 cut 99", 2);
        priced("cut 99", 0);
    }

    private static void exactly() {
        Due.holds(TERMS, "All exactly;");
        priced("each 1 9999 over 0 cut 99", 4000, 0, 399960);
        priced("each 1 9999 over 0 each 1 9999 over 0 each 1 9999 over 0 each 1 9999 over 0 each 1 9999 over 0 cut 99 cut 99 cut 99", 4000, 0, 200);
        priced("each 1 9999 over 0 each 1 9999 over 0 each 1 9999 over 0 each 1 9999 over 0 each 1 9999 over 0 each 1 9999 over 0 cut 99 cut 99",
            4000, 0, 23998);
    }

    private static void dearest() {
        Due.holds(TERMS, "above 1000000 it is 1000000 in the end.");
        priced("each 1 250 over 0", 3999, 0, 999750);
        priced("each 1 250 over 0", 4000, 0, 1000000);
        priced("each 1 250 over 0 base 1", 4000, 0, 1000000);
        priced("each 1 250 over 1 base 249", 4000, 0, 999999);
        priced("each 1 9999 over 0", 4000, 0, 1000000);
        priced("each 1 250 over 0 base 100 cut 50", 4000, 0, 500050);
        priced("each 1 9999 over 0 each 1 9999 over 0 each 1 9999 over 0 each 1 9999 over 0 each 1 9999 over 0 each 1 9999 over 0 "
            + "each 1 9999 over 0 each 1 9999 over 0", 4000, 0, 1000000);
        Room room = Due.roomOf(OFFICES + "street s in a from 1 to 9 at 0 0 e walk 0;service s letter most 4000 each 1 9999 over 0;");
        Due.is("accept", Due.accept(room, 0, 4000, 0, "1 s 001"), 0);
        Due.is("accept", Due.accept(room, 0, 4000, 0, "1 s 001"), 1);
        Due.is("an ITEM's price", room.item(0, 8), 1000000);
        Due.is("two prices", room.count(15), 2000000);
    }

    private static void weights() {
        Due.holds(TERMS, "A service takes weights 1 .. its G.");
        Room room = Due.roomOf("office a 1 0 0;service s letter most 4000 base 3;service t parcel most 1 base 4;service u register most 77 base 5;");
        int[] most = {4000, 1, 77};
        for (int i = 0; i < most.length; i++) {
            Due.is("weight 0", room.price(i, 0, 0, 0), -1);
            Due.is("weight 1", room.price(i, 1, 0, 0), 3 + i);
            Due.is("weight G", room.price(i, most[i], 0, 0), 3 + i);
            Due.is("weight G and 1", room.price(i, most[i] + 1, 0, 0), -1);
        }
    }

    private static void notTaken() {
        Due.holds("Promise 6: price", "A price; NONE if the service does not take the weight.");
        Room room = Due.roomOf(OFFICES + "service s letter most 100 base 3;");
        int[] weights = {0, -1, 101, Integer.MIN_VALUE, Integer.MAX_VALUE};
        for (int weight : weights) {
            Due.is("weight " + weight, room.price(0, weight, 0, 1), -1);
        }
        Due.is("a price", room.price(0, 100, 0, 1), 3);
        Due.is("a price of 0 is one", Due.roomOf("office a 1 0 0;service s letter most 1;").price(0, 1, 0, 0), 0);
    }

    private static void wrongInputs() {
        Due.holds("Promise 6: price", "IllegalArgumentException: no such service, office.");
        Room room = Due.roomOf(OFFICES + "service s letter most 100 base 3;service t letter most 9;");
        int[][] wrong = {{-1, 1, 0, 0}, {2, 1, 0, 0}, {0, 1, -1, 0}, {0, 1, 10, 0}, {0, 1, 0, -1}, {0, 1, 0, 10}, {0, 0, 0, 10}, {2, 0, 0, 0},
            {Integer.MAX_VALUE, 1, 0, 0}, {0, 1, Integer.MIN_VALUE, 0}, {0, 1, 0, Integer.MAX_VALUE}, {8, 1, 0, 0}, {0, 1, 15, 0}, {0, 1, 0, 16}};
        for (int[] w : wrong) {
            Due.fires("price(" + w[0] + ", " + w[1] + ", " + w[2] + ", " + w[3] + ")", () -> room.price(w[0], w[1], w[2], w[3]),
                Due.ILLEGAL_ARGUMENT);
        }
        Due.is("the last ones", room.price(1, 9, 9, 9), 0);
    }
}
