/** Promise 3: books, their FAULTS, and what a book takes the place of. */
public final class BookTest {
    private static final String TWO = "office a 1 0 0;office b 2 0 0;";

    public static void main(String[] args) {
        tokens();
        offices();
        shorts();
        streets();
        services();
        coaches();
        tooMany();
        takesThePlace();
        Due.end("BookTest");
    }

    private static void fault(int kind, String marked) {
        Due.bookFault(kind, marked);
    }

    private static void good(String text) {
        Due.roomOf(text);
    }

    private static void tokens() {
        good("");
        good(" \n ");
        good("office a 1 2 3;office\nb\n4 5 6 ;");
        good("office abcdefghijkl 000000001 0 0;");
        good("office a1b2 7 0 0;");
        good("office a 1 2 3;street x in a from 1to 2at 3 4e walk 5;");
        fault(1, "office |abcdefghijklm 1 0 0;");
        fault(1, "office a |0000000001 0 0;");
        fault(1, "|Office a 1 0 0;");
        fault(1, "|;");
        fault(1, "|7");
        fault(1, "|.");
        fault(1, "office a 1 2 3;|office1 b 2 0 0;");
        good("office a 1 2 3;   ");
        fault(1, "office a 1 2 3 |");
        fault(1, "office a 1 2 3|");
        fault(1, "office a 1 2 3|!;");
        fault(1, "office a 1 2 3|:office");
        fault(1, "office |1a 1 2 3;");
        fault(1, "office a|_b");
    }

    private static void offices() {
        good("office office 1 0 999;office in 999 999 0;");
        fault(1, "office |");
        fault(1, "office |;");
        fault(1, "office a |b");
        fault(4, "office a |0 1 1;");
        fault(4, "office a |1000 1 1;");
        fault(4, "office a 1 |1000 1;");
        fault(4, "office a 1 0 |1000;");
        fault(1, "office a 1 |-1 0;");
        fault(1, "office a 1 0|;");
        fault(1, "office a 1 0 0 |0;");
        fault(3, "office a 1 0 0;office |a 2 0 0;");
        fault(3, "office a 1 0 0;office b |1 0 0;");
        fault(3, "office a 1 0 0;office |a x");
        fault(4, "office a 1 0 0;office b |0 a");
        fault(1, "office a 1 0 0|,");
    }

    private static void shorts() {
        good("short a b;short b a;short short in;");
        good("short a a;short c b;short d b;");
        fault(1, "short |");
        fault(1, "short a|;");
        fault(1, "short a |1;");
        fault(1, "short a b |c;");
        fault(3, "short a b;short |a c;");
        fault(1, "short a b;short c |9");
    }

    private static void streets() {
        good(TWO + "street s in a from 1 to 999 at 0 999 e walk 0;street s t u in b odd from 5 to 5 at 999 0 n walk 9;"
            + "street s t in b even from 1 to 1 at 1 1 w walk 1;street odd from street in a from 3 to 4 at 1 1 s walk 2;");
        fault(1, TWO + "street |in a from 1 to 2 at 0 0 e walk 0;");
        fault(1, TWO + "street |5 in a from 1 to 2 at 0 0 e walk 0;");
        fault(1, TWO + "street s t u |v in a from 1 to 2 at 0 0 e walk 0;");
        fault(1, TWO + "street s t u |7");
        fault(1, TWO + "street s |,");
        fault(2, TWO + "street s in |c from 1 to 2 at 0 0 e walk 0;");
        fault(2, TWO + "street s in |from 1 to 2 at 0 0 e walk 0;");
        fault(2, TWO + "street s in |in a");
        fault(1, TWO + "street s in |1");
        fault(1, TWO + "street s in a |to");
        fault(1, TWO + "street s in a odd |even from 1 to 2 at 0 0 e walk 0;");
        fault(1, TWO + "street s in a odd |1");
        fault(4, TWO + "street s in a from |0 to 2 at 0 0 e walk 0;");
        fault(4, TWO + "street s in a from |1000 to 2 at 0 0 e walk 0;");
        fault(4, TWO + "street s in a from 3 to |2 at 0 0 e walk 0;");
        fault(4, TWO + "street s in a from 3 to |1000 at 0 0 e walk 0;");
        fault(1, TWO + "street s in a from |x to 2");
        fault(1, TWO + "street s in a from 1 |at 2");
        fault(1, TWO + "street s in a from 1 to 2 |to");
        fault(4, TWO + "street s in a from 1 to 2 at |1000 0 e walk 0;");
        fault(4, TWO + "street s in a from 1 to 2 at 0 |1000 e walk 0;");
        fault(1, TWO + "street s in a from 1 to 2 at 0 0 |x walk 0;");
        fault(1, TWO + "street s in a from 1 to 2 at 0 0 |ne walk 0;");
        fault(1, TWO + "street s in a from 1 to 2 at 0 0 |4");
        fault(1, TWO + "street s in a from 1 to 2 at 0 0 e |wa 0;");
        fault(4, TWO + "street s in a from 1 to 2 at 0 0 e walk |10;");
        fault(1, TWO + "street s in a from 1 to 2 at 0 0 e walk 1 |");
    }

    private static void services() {
        good("service a letter most 1;service b parcel most 4000 base 0 each 1 0 over 0 zone 0 0 far 9999 up 0 least 0 cut 1"
            + " zone 9 9999;service letter register most 5 each 4000 9999 over 4000 cut 99;");
        good("service most letter most 1;service base letter most 1 base 2;");
        fault(1, "service |7");
        fault(1, "service a |letters most 1;");
        fault(1, "service a |most 1;");
        fault(1, "service a letter |1;");
        fault(4, "service a letter most |0;");
        fault(4, "service a letter most |4001;");
        fault(3, "service a letter most 1;service |a letter most 1;");
        fault(1, "service a letter most 1 |bas 1;");
        fault(1, "service a letter most 1 |7;");
        fault(1, "service a letter most 1 base|;");
        fault(4, "service a letter most 1 base |10000;");
        fault(4, "service a letter most 1 far |10000;");
        fault(4, "service a letter most 1 up |10000;");
        fault(4, "service a letter most 1 least |10000;");
        fault(4, "service a letter most 1 cut |0;");
        fault(4, "service a letter most 1 cut |100;");
        fault(4, "service a letter most 1 zone |10 1;");
        fault(4, "service a letter most 1 zone 1 |10000;");
        fault(4, "service a letter most 1 each |0 1 over 1;");
        fault(4, "service a letter most 1 each |4001 1 over 1;");
        fault(4, "service a letter most 1 each 1 |10000 over 1;");
        fault(1, "service a letter most 1 each 1 1 |1;");
        fault(4, "service a letter most 1 each 1 1 over |4001;");
        fault(1, "service a letter most 1 each 1 1 over |;");
        String eight = " base 1 base 1 base 1 base 1 base 1 base 1 base 1 base 1";
        good("service a letter most 1" + eight + ";");
        fault(5, "service a letter most 1" + eight + " |base 1;");
        fault(5, "service a letter most 1" + eight + " |cut 0;");
        fault(1, "service a letter most 1" + eight + " |walk 0;");
    }

    private static void coaches() {
        good(TWO + "coach a b first 0 every 1 last 0 takes 1 holds 1;coach b a first 1439 every 1440 last 1439 takes 3000 holds 20;"
            + "coach a b first 0 every 1 last 0 takes 1 holds 1;");
        fault(2, TWO + "coach |c b first 0 every 1 last 0 takes 1 holds 1;");
        fault(2, TWO + "coach a |c first 0 every 1 last 0 takes 1 holds 1;");
        fault(3, TWO + "coach a |a first 0 every 1 last 0 takes 1 holds 1;");
        fault(1, TWO + "coach |1");
        fault(1, TWO + "coach a |1");
        fault(2, TWO + "coach |first");
        fault(1, TWO + "coach a b |every");
        fault(4, TWO + "coach a b first |1440 every 1 last 0 takes 1 holds 1;");
        fault(1, TWO + "coach a b first 0 |last");
        fault(4, TWO + "coach a b first 0 every |0 last 0 takes 1 holds 1;");
        fault(4, TWO + "coach a b first 0 every |1441 last 0 takes 1 holds 1;");
        fault(1, TWO + "coach a b first 0 every 1 |takes");
        fault(4, TWO + "coach a b first 7 every 1 last |6 takes 1 holds 1;");
        fault(4, TWO + "coach a b first 7 every 1 last |1440 takes 1 holds 1;");
        fault(1, TWO + "coach a b first 7 every 1 last 8 |holds 1;");
        fault(4, TWO + "coach a b first 0 every 1 last 0 takes |0 holds 1;");
        fault(4, TWO + "coach a b first 0 every 1 last 0 takes |3001 holds 1;");
        fault(1, TWO + "coach a b first 0 every 1 last 0 takes 1 |take");
        fault(4, TWO + "coach a b first 0 every 1 last 0 takes 1 holds |0;");
        fault(4, TWO + "coach a b first 0 every 1 last 0 takes 1 holds |21;");
        fault(1, TWO + "coach a b first 0 every 1 last 0 takes 1 holds 1 |1");
    }

    private static String some(int many, String head, String tail) {
        StringBuilder text = new StringBuilder();
        for (int i = 1; i <= many; i++) {
            text.append(head).append(i).append(tail.replace("#", "" + i));
        }
        return text.toString();
    }

    private static void tooMany() {
        String offices = some(16, "office a", " # 0 0;");
        good(offices);
        fault(5, offices + "|office a1");
        fault(5, offices + "|office");
        fault(1, offices + "|offices");
        String shorts = some(20, "short a", " b;");
        good(shorts);
        fault(5, shorts + "|short a1 b;");
        String streets = TWO + some(60, "street s", " in a from 1 to 9 at 1 1 e walk 0;");
        good(streets);
        fault(5, streets + "|street 5");
        String services = some(8, "service s", " letter most 1;");
        good(services);
        fault(5, services + "|service s1");
        String coaches = TWO + some(40, "coach a b first ", " every 5 last 900 takes 5 holds 5;");
        good(coaches);
        fault(5, coaches + "|coach c");
    }

    private static void takesThePlace() {
        Room room = Due.roomOf(Due.BOOK);
        Due.is("accept", Due.accept(room, 2, 9, 0, "7 station road birch"), 0);
        Due.is("accept", Due.accept(room, 2, 9, 0, "1 mill lane aster"), 1);
        Due.is("moved", Due.moved(room, 0, 54, "7 station road birch") ? 1 : 0, 1);
        Due.is("find", Due.find(room, "7 station rod birch"), 3);
        Due.is("read", Due.read(room, Due.bars(room, 0)), 0);
        Due.is("programme", Due.programme(room, "r3=5;x1=shelf 0;make@2 longs 4;same@3@2;bag x1,0;"), 0);
        Due.is("tick", room.tick(20), 20);
        Due.is("run", room.run(0, 50), 0);
        Due.is("seal is another", room.count(12) == 7 ? 1 : 0, 0);
        Due.is("a faulty book", Due.book(room, "office a 1 2;"), 1 + 16 * 12);
        Due.is("all stays: items", room.count(5), 2);
        Due.is("all stays: clock", room.count(4), 20);
        Due.is("all stays: steps", room.count(14), 5);
        Due.is("all stays: found", room.found(1), 1);
        Due.is("all stays: mended", room.mended(), 0);
        Due.is("all stays: number", room.number(3), 5);
        Due.is("all stays: held", room.held(1), 0);
        Due.is("all stays: tray", room.tray(3, 2), 2);
        Due.is("all stays: moved", room.count(11), 1);
        Due.is("all stays: bag", room.bag(0, 0), 0);
        Due.is("all stays: programme", room.run(0, 1), 10);
        Due.is("a good one", Due.book(room, Due.BOOK), 0);
        int[] counts = {4, 7, 4, 6, 0, 0, 0, 0, 0, 0, 0, 0, 7, 6, 0, 0, 0, 0};
        for (int i = 0; i < counts.length; i++) {
            Due.is("after a book count(" + i + ")", room.count(i), counts[i]);
        }
        Due.is("found", room.found(0), -1);
        Due.is("found", room.found(1), -1);
        Due.is("mended", room.mended(), -1);
        Due.is("number", room.number(3), 0);
        Due.is("held", room.held(1), -1);
        Due.is("tray", room.tray(2, 0), 0);
        Due.is("tray", room.tray(3, 1), -1);
        Due.is("no programme", room.run(0, 5), -1);
        Due.is("bag", room.bag(0, 0), -1);
        Due.is("shelf", room.shelf(0, 0), -1);
        Due.fires("place", () -> room.place(2, 0), Due.NO_ELEMENT);
        Due.fires("bar", () -> room.bar(0, 0), Due.NO_ELEMENT);
        Due.is("the clock is that of the book", room.way(0, 1), 17);
    }
}
