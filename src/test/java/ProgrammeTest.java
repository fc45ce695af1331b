/** Promises 17 to 22: programmes, their FAULTS, runs and what they leave. */
public final class ProgrammeTest {
    private static final int MIN = Integer.MIN_VALUE;
    private static final int MAX = Integer.MAX_VALUE;

    public static void main(String[] args) {
        forms();
        depths();
        numbers();
        rows();
        trays();
        itemRows();
        slides();
        items();
        bags();
        refusals();
        tries();
        always();
        steps();
        stepsOfNext();
        full();
        allRuns();
        wrongInputs();
        Due.end("ProgrammeTest");
    }

    private static void fault(int kind, String marked) {
        Due.programmeFault(kind, marked);
    }

    /**
     * Item 0 a letter of 5, item 1 a register of 7, item 2 a parcel of 9, item 3 a letter to here; item 4 is at b.
     * Coach 2 goes to c but once a day, so that one can go to b and come back ahead of it.
     */
    private static Room room() {
        Room room = Due.roomOf("office a 101 0 0;office b 202 0 0;office c 303 0 0;"
            + "street s in a from 1 to 9 at 0 0 e walk 0;street t in b from 1 to 9 at 0 0 e walk 0;street u in c from 1 to 9 at 0 0 e walk 0;"
            + "service l letter most 9;service r register most 9;service p parcel most 9;"
            + "coach b a first 0 every 9 last 900 takes 5 holds 9;coach a b first 0 every 9 last 900 takes 5 holds 9;"
            + "coach a c first 0 every 1440 last 0 takes 5 holds 9;coach a b first 0 every 9 last 900 takes 5 holds 9;");
        Due.is("accept", Due.accept(room, 0, 5, 0, "1 t 202"), 0);
        Due.is("accept", Due.accept(room, 1, 7, 0, "1 u 303"), 1);
        Due.is("accept", Due.accept(room, 2, 9, 0, "1 t 202"), 2);
        Due.is("accept", Due.accept(room, 0, 1, 0, "1 s 101"), 3);
        Due.is("accept", Due.accept(room, 0, 1, 1, "1 s 101"), 4);
        return room;
    }

    private static Room runs(String text, int due) {
        Room room = room();
        Due.is("programme " + text, Due.programme(room, text), 0);
        Due.is("run of " + text, room.run(0, 20000), due);
        return room;
    }

    private static void tells(String e, long due) {
        Room room = runs("r0 = " + e + ";", 0);
        Due.is("tells " + e, room.number(0), due);
    }

    private static void refused(String statements, int due) {
        runs(statements, due);
        Room room = runs("r8=1; try { " + statements + " r8=2; } on 0 { r7=r9; }", 0);
        Due.is("caught " + statements, room.number(7), due);
        Due.is("ended " + statements, room.number(8), 1);
    }

    private static void forms() {
        runs("", 0);
        runs(" \n", 0);
        runs("r0=1;x0=none;make@0 ints 3;drop@0;same@0@1;make@0 ints 1;put@0[0]1;make@1 items 1;lay@1[0]none;"
            + "slide@0 0,@0 0,1;bag shelf 0,1;if 1{}if 0{}else{}while 0{}try{}try{}on 0{}try{}on 1{}on 9{}always{}try{}always{}stop;", 0);
        fault(1, "|r");
        fault(1, "|r10=1;");
        fault(1, "|x4=none;");
        fault(1, "|x=none;");
        fault(1, "|5");
        fault(1, "|;");
        fault(1, "|R0=1;");
        fault(1, "|}");
        fault(1, "|{}");
        fault(1, "|else{}");
        fault(1, "|on 1{}");
        fault(1, "|always{}");
        fault(1, "|len@0;");
        fault(1, "r0|+1;");
        fault(1, "r0=|;");
        fault(1, "r0=1|");
        fault(1, "r0=1 |2;");
        fault(1, "r0=|x0;");
        fault(1, "r0=|none;");
        fault(1, "r0=1<2|<3;");
        fault(1, "r0=1=2|=3;");
        fault(1, "r0=1+|;");
        fault(1, "r0=1*|+1;");
        fault(1, "r0=|+1;");
        fault(1, "r0=(1|;");
        fault(1, "r0=1|);");
        fault(1, "r0=|1234567890;");
        fault(1, "r0=5|a;");
        fault(1, "r0=len |0;");
        fault(1, "r0=len@|;");
        fault(1, "r0=at@0|;");
        fault(1, "r0=at@0[|];");
        fault(1, "r0=at@0[1|;");
        fault(1, "r0=code |1;");
        fault(1, "r0=is |;");
        fault(1, "x0=|1;");
        fault(1, "x0=|many;");
        fault(1, "x0=|truths x0;");
        fault(1, "x0=|registers;");
        fault(1, "make@0 |register 1;");
        fault(1, "x0=shelf |x0;");
        fault(1, "x0=|item0;");
        fault(1, "x0=item |0;");
        fault(1, "x0=letter |0;");
        fault(1, "make |0 ints 1;");
        fault(1, "make@0 |int 1;");
        fault(1, "make@0 |1;");
        fault(1, "make@0 ints|;");
        fault(1, "drop@0|,");
        fault(1, "same@0|;");
        fault(1, "put@0 |1;");
        fault(1, "put@0[1]|;");
        fault(1, "lay@0[1]|5;");
        fault(1, "slide@0 1|;");
        fault(1, "slide@0 1,|1;");
        fault(1, "slide@0 1,@0 1|;");
        fault(1, "bag x0|;");
        fault(1, "bag |0,0;");
        fault(1, "refuse|;");
        fault(1, "stop|");
        fault(1, "stop |1;");
        fault(1, "if|{}");
        fault(1, "if 1|;");
        fault(1, "if 1{|");
        fault(1, "if 1{}else|;");
        fault(1, "if 1{}else |if 1{}");
        fault(1, "while 1{}|else{}");
        fault(1, "try|;");
        fault(1, "try{}on|{}");
        fault(1, "try{}on |r1{}");
        fault(4, "try{}on |10{}");
        fault(4, "try{}on |999999999{}");
        fault(1, "try{}on 0|;");
        fault(1, "try{}always{}|on 1{}");
        fault(1, "try{}always{}|always{}");
        fault(1, "try{}always|;");
        fault(1, "r0=1;|.");
        fault(1, "r0=1;\n\n|!");
        fault(1, "r0=|office;");
        Due.is("leading 0s", Due.programme(room(), "try{}on 000000009{}"), 0);
    }

    private static String many(int many, String what) {
        return what.repeat(many);
    }

    private static void depths() {
        Room room = room();
        Due.is("20 blocks", Due.programme(room, many(20, "if 1{") + many(20, "}")), 0);
        fault(5, many(20, "if 1{") + "if |1{");
        fault(5, many(20, "try{") + "try|{}");
        fault(1, many(20, "try{") + "try|;");
        fault(5, many(20, "try{") + "r0=|1;");
        fault(1, many(20, "try{") + "r0=|;");
        fault(5, many(20, "try{") + "x0=|none;");
        fault(1, many(20, "try{") + "x0=|many;");
        Due.is("a statement at 20", Due.programme(room, many(20, "try{") + "stop;" + many(20, "}")), 0);
        Due.is("19 brackets", Due.programme(room, "r0=" + many(19, "(") + "7" + many(19, ")") + ";"), 0);
        Due.is("runs", room.run(0, 9), 0);
        Due.is("tells", room.number(0), 7);
        fault(5, "r0=" + many(20, "(") + "|7" + many(20, ")") + ";");
        fault(1, "r0=" + many(20, "(") + "|)");
        fault(5, "r0=" + many(20, "-") + "|-");
        Due.is("19 minus", Due.programme(room, "r0=" + many(19, "-") + "7;"), 0);
        Due.is("runs", room.run(0, 9), 0);
        Due.is("tells", room.number(0), -7);
        fault(5, "x0=" + many(20, "letter ") + "|x0;");
        Due.is("19 letters", Due.programme(room, "x0=" + many(19, "letter ") + "none;"), 0);
        fault(5, "r0=" + many(20, "len@") + "|7;");
        fault(5, "r0=" + many(6, "at@0[code item@") + "at@0[code |item@0[0]]");
        fault(5, "r0=" + many(6, "at@0[code item@0[") + "at@0[code |none]");
        Due.is("at, item", Due.programme(room, "r0=" + many(6, "at@0[code item@0[") + "-0" + many(6, "]]") + ";"), 0);
        Due.is("a row of units", Due.programme(room, "r0=" + many(1000, "1+") + "1;"), 0);
        Due.is("runs", room.run(0, 9), 0);
        Due.is("tells", room.number(0), 1001);
        Due.is("as many tokens as can be", Due.programme(room, "r0=" + many(1997, "1+") + "1;"), 0);
        Due.is("runs", room.run(0, 9), 0);
        Due.is("tells", room.number(0), 1998);
        Due.is("a row of statements", Due.programme(room, many(800, "r0=1;")), 0);
        Due.is("runs", room.run(0, 800), 0);
        Due.is("steps", room.count(14), 800);
    }

    private static void numbers() {
        tells("7+2*3", 13);
        tells("(7+2)*3", 27);
        tells("7-2-3", 2);
        tells("7/2*3", 9);
        tells("0-7/2", -3);
        tells("-7/2", -3);
        tells("-7%4", -3);
        tells("7%-4", 3);
        tells("--7", 7);
        tells("2*-3", -6);
        tells("1<2", 1);
        tells("2<1", 0);
        tells("2<2", 0);
        tells("2=2", 1);
        tells("1+1=2", 1);
        tells("1=2+1", 0);
        tells("(1<2)=(2<3)", 1);
        tells("999999999*999999999*999999999", 999999999L * 999999999L * 999999999L);
        tells("many", 4);
        tells("here", 0);
        tells("time", 0);
        tells("r5", 0);
        tells("is x0", 0);
        tells("is shelf 0", 1);
        tells("sort@0", 0);
        Room room = runs("r1=1;r2=64;while r2{r1=r1*2;r2=r2-1;if r2=1{r3=r1;r4=r1/-1;r5=r1%-1;r6=r1-1;r7=-r1;}}", 0);
        Due.is("wraps to 0", room.number(1), 0);
        Due.is("least", room.number(3), Long.MIN_VALUE);
        Due.is("least by -1", room.number(4), Long.MIN_VALUE);
        Due.is("rest by -1", room.number(5), 0);
        Due.is("least less 1", room.number(6), Long.MAX_VALUE);
        Due.is("less the least", room.number(7), Long.MIN_VALUE);
        refused("r0=1/0;", 6);
        refused("r0=1%0;", 6);
        refused("r0=0/(1-1)+len@0;", 6);
        refused("r0=len@0+1/0;", 1);
        refused("r0=1/0<len@0;", 6);
        room = runs("r1=5;r1=1/0;", 6);
        Due.is("a refused statement sets nothing", room.number(1), 5);
    }

    private static void kept(String row, String e, long due) {
        Room room = runs("r1=1;r2=63;while r2{r1=r1*2;r2=r2-1;}make@3 " + row + " 2;put@3[1]" + e + ";r0=at@3[1];r3=at@3[0];", 0);
        Due.is(row + " keep " + e, room.number(0), due);
        Due.is("place of " + row, room.place(3, 1), due);
        Due.is("0 at first", room.number(3), 0);
    }

    /** r1 is the least number of 64 bits. */
    private static void rows() {
        kept("truths", "7", 1);
        kept("truths", "0", 0);
        kept("truths", "256", 1);
        kept("truths", "r1", 1);
        kept("bytes", "127", 127);
        kept("bytes", "128", -128);
        kept("bytes", "255", -1);
        kept("bytes", "-129", 127);
        kept("signs", "65535", 65535);
        kept("signs", "65536", 0);
        kept("signs", "-1", 65535);
        kept("shorts", "32767", 32767);
        kept("shorts", "32768", -32768);
        kept("ints", "2147483647".substring(0, 9) + "*10+7", 2147483647L);
        kept("ints", "214748364*10+8", -2147483648L);
        kept("longs", "r1", Long.MIN_VALUE);
        kept("longs", "r1-1", Long.MAX_VALUE);
        kept("floats", "16777217", 16777216);
        kept("floats", "16777219", 16777220);
        kept("floats", "-16777217", -16777216);
        kept("floats", "r1", Long.MIN_VALUE);
        kept("floats", "r1-1", Long.MAX_VALUE);
        kept("doubles", "r1-1", Long.MAX_VALUE);
        kept("doubles", "r1+1", Long.MIN_VALUE);
        kept("doubles", "94906267*94906267", 9007199515875289L / 2 * 2);
        kept("doubles", "999999999", 999999999);
    }

    private static void trays() {
        Room room = runs("make@0 bytes 3;make@1 longs 0;same@2@0;same@3@1;make@4 longs 0;drop@0;same@5@0;r0=sort@2;r1=len@2;r2=len@1;r3=sort@0;"
            + "put@2[2]5;same@6@2;put@6[0]9;make@11 registers 7;make@10 truths 2000-10;", 0);
        int[][] due = {{0, -1, -1}, {6, 0, 1}, {2, 3, 2}, {6, 0, 1}, {6, 0, 4}, {0, -1, -1}, {2, 3, 2}, {0, -1, -1}, {0, -1, -1},
            {0, -1, -1}, {1, 1990, 10}, {12, 7, 11}};
        for (int t = 0; t < 12; t++) {
            for (int what = 0; what < 3; what++) {
                Due.is("tray(" + t + ", " + what + ")", room.tray(t, what), due[t][what]);
            }
            Due.is("another what", room.tray(t, 3), -1);
            Due.is("another what", room.tray(t, -1), -1);
        }
        Due.is("sort", room.number(0), 2);
        Due.is("len", room.number(1), 3);
        Due.is("len 0", room.number(2), 0);
        Due.is("one row", room.place(2, 0), 9);
        Due.is("one row", room.place(6, 2), 5);
        Due.is("none at first", room.place(11, 6), -1);
        int[][] wrong = {{-1, 0}, {12, 0}, {0, 0}, {2, -1}, {2, 3}, {1, 0}, {MAX, 0}, {2, MIN}};
        for (int[] w : wrong) {
            Due.fires("place", () -> room.place(w[0], w[1]), Due.NO_ELEMENT);
        }
        refused("r0=sort@12;", 3);
        refused("r0=sort@-1;", 3);
        refused("drop@12;", 3);
        refused("same@0@12;", 3);
        refused("same@12@(1/0);", 3);
        refused("make@12 ints -1;", 3);
        refused("make@0 ints -1;", 4);
        refused("make@0 ints 1/0;", 6);
        refused("r0=len@0;", 1);
        refused("r0=at@0[-1];", 1);
        refused("put@0[-1]5;", 1);
        refused("put@12[1/0]5;", 3);
        refused("put@0[1/0]5;", 6);
        refused("put@0[0]1/0;", 6);
        refused("make@0 ints 2;put@0[2]5;", 3);
        refused("make@0 ints 2;put@0[-1]5;", 3);
        refused("make@0 ints 2;r0=at@0[2];", 3);
        refused("make@0 ints 0;r0=at@0[0];", 3);
        refused("make@0 items 2;r0=at@0[2];", 2);
        refused("make@0 items 2;put@0[2]2;", 2);
    }

    private static void itemRows() {
        Room room = runs("make@0 items 4;make@1 letters 4;make@2 parcels 4;make@3 registers 4;lay@0[0]shelf 2;lay@1[0]shelf 0;lay@1[1]shelf 1;"
            + "lay@2[3]shelf 2;lay@3[2]shelf 1;lay@3[1]none;x0=item@1[1];x1=item@1[2];lay@0[1]x0;", 0);
        Due.is("items", room.place(0, 0), 2);
        Due.is("items", room.place(0, 1), 1);
        Due.is("letters", room.place(1, 0), 0);
        Due.is("a register is a letter", room.place(1, 1), 1);
        Due.is("parcels", room.place(2, 3), 2);
        Due.is("registers", room.place(3, 2), 1);
        Due.is("held", room.held(0), 1);
        Due.is("none", room.held(1), -1);
        Due.is("sort", room.tray(1, 0), 10);
        refused("make@0 letters 1;lay@0[0]shelf 2;", 5);
        refused("make@0 parcels 1;lay@0[0]shelf 1;", 5);
        refused("make@0 registers 1;lay@0[0]shelf 0;", 5);
        refused("make@0 registers 1;lay@0[1]shelf 0;", 3);
        refused("make@0 registers 1;lay@0[-1]shelf 0;", 3);
        refused("make@0 ints 1;lay@0[1]shelf 0;", 2);
        refused("lay@0[1]shelf 0;", 1);
        refused("lay@0[1]shelf 9;", 3);
        refused("x0=item@0[0];", 1);
        refused("make@0 longs 1;x0=item@0[1];", 2);
        refused("make@0 letters 1;x0=item@0[1];", 3);
    }

    private static void slides() {
        String row = "make@0 ints 5;put@0[0]1;put@0[1]2;put@0[2]3;put@0[3]4;put@0[4]5;";
        Room room = runs(row + "slide@0 0,@0 1,4;", 0);
        int[] up = {1, 1, 2, 3, 4};
        Room down = runs(row + "same@1@0;slide@1 1,@0 0,4;", 0);
        int[] back = {2, 3, 4, 5, 5};
        Room other = runs(row + "make@1 ints 7;slide@0 2,@1 4,3;slide@0 5,@1 7,0;", 0);
        int[] behind = {0, 0, 0, 0, 3, 4, 5};
        for (int i = 0; i < 5; i++) {
            Due.is("as if all had been taken first", room.place(0, i), up[i]);
            Due.is("as if all had been taken first", down.place(0, i), back[i]);
        }
        for (int i = 0; i < 7; i++) {
            Due.is("to another row", other.place(1, i), behind[i]);
        }
        refused("slide@0 -1,@1 0,0;", 1);
        refused(row + "slide@0 -1,@1 0,0;", 1);
        refused(row + "slide@1 -1,@0 0,0;", 1);
        refused(row + "make@1 longs 5;slide@0 -1,@1 0,0;", 2);
        refused(row + "make@1 items 5;slide@0 -1,@1 0,0;", 2);
        refused(row + "make@1 items 5;slide@1 -1,@0 0,0;", 2);
        refused(row + "slide@0 -1,@0 0,0;", 3);
        refused(row + "slide@0 0,@0 -1,0;", 3);
        refused(row + "slide@0 0,@0 0,-1;", 3);
        refused(row + "slide@0 0,@0 0,6;", 3);
        refused(row + "slide@0 6,@0 0,0;", 3);
        refused(row + "slide@0 0,@0 6,0;", 3);
        refused(row + "slide@0 2,@0 0,4;", 3);
        refused(row + "slide@0 0,@0 2,4;", 3);
        refused(row + "slide@0 999999999*999999999,@0 2,999999999*999999999*99;", 3);
        refused("slide@12 1/0,@0 0,0;", 3);
        refused("slide@0 1/0,@12 0,0;", 6);
        refused("slide@0 0,@12 1/0,0;", 3);
        refused("slide@0 0,@0 0,1/0;", 6);
        String items = "make@0 items 4;make@1 letters 4;lay@0[0]shelf 0;lay@0[1]shelf 1;lay@0[3]shelf 3;";
        Room fit = runs(items + "slide@0 0,@1 0,4;", 0);
        long[] due = {0, 1, -1, 3};
        Room part = runs(items + "lay@1[2]shelf 3;lay@1[3]shelf 3;lay@0[2]shelf 2;slide@0 0,@1 0,4;", 5);
        long[] partly = {0, 1, 3, 3};
        for (int i = 0; i < 4; i++) {
            Due.is("items", fit.place(1, i), due[i]);
            Due.is("those ahead have come", part.place(1, i), partly[i]);
        }
        runs(items + "slide@1 0,@0 0,4;make@2 registers 4;slide@2 0,@1 0,4;slide@0 0,@2 0,4;", 0);
        refused(items + "make@2 parcels 4;slide@0 2,@2 0,2;", 5);
        Room first = runs("make@0 items 3;make@1 parcels 3;lay@1[0]shelf 2;lay@0[0]shelf 0;slide@0 0,@1 0,3;", 5);
        Due.is("the first has not the sort", first.place(1, 0), 2);
        Room none = runs("make@0 items 3;make@1 parcels 3;lay@1[0]shelf 2;slide@0 0,@1 0,0;slide@0 1,@1 1,2;", 0);
        Due.is("none is slid", none.place(1, 0), 2);
        Room two = runs("make@0 items 4;make@1 parcels 4;lay@1[3]shelf 2;slide@0 0,@1 1,2;slide@0 0,@0 1,2;", 0);
        Due.is("no more than two", two.place(1, 3), 2);
        Room same = runs("make@1 registers 4;lay@1[0]shelf 1;slide@1 0,@1 1,3;slide@1 0,@1 2,0;", 0);
        long[] shifted = {1, 1, -1, -1};
        for (int i = 0; i < 4; i++) {
            Due.is("in one row", same.place(1, i), shifted[i]);
        }
    }

    private static void items() {
        tells("code shelf 0", 202);
        tells("code shelf 1", 303);
        tells("weight shelf 2", 9);
        tells("kind shelf 2", 2);
        tells("next shelf 0", 1);
        tells("next shelf 1", 1);
        tells("next shelf 3", -1);
        refused("r0=code none;", 1);
        refused("r0=weight none;", 1);
        refused("r0=kind x0;", 1);
        refused("r0=next none;", 1);
        refused("x0=shelf 4;", 3);
        refused("x0=shelf -1;", 3);
        refused("x0=parcel shelf 0;", 2);
        refused("x0=letter shelf 2;", 2);
        refused("x0=register shelf 0;", 2);
        refused("x0=parcel letter shelf 2;", 2);
        Room room = runs("x0=letter shelf 1;x1=register shelf 1;x2=parcel shelf 2;x3=shelf 3;x3=parcel none;", 0);
        int[] due = {1, 1, 2, -1};
        for (int i = 0; i < 4; i++) {
            Due.is("held", room.held(i), due[i]);
        }
        room = room();
        Due.programme(room, "x0=shelf 0;r0=next x0;r1=here;r2=many;r3=time;r4=code x0;");
        room.tick(77);
        Due.is("run at b", room.run(1, 9), 0);
        long[] numbers = {0, 1, 1, 77, 101};
        for (int i = 0; i < 5; i++) {
            Due.is("at b", room.number(i), numbers[i]);
        }
        Due.is("held", room.held(0), 4);
        Due.is("run at c", room.run(2, 9), 3);
        Due.is("all is new in a run", room.held(0), -1);
        Due.is("all is new in a run", room.number(3), 0);
    }

    private static void bags() {
        Room room = runs("x0=shelf 2;bag x0,3;bag shelf 0,1;r0=many;bag shelf 0,2;", 0);
        Due.is("bag 3", room.bag(3, 0), 2);
        Due.is("bag 1", room.bag(1, 0), 0);
        Due.is("bag 2", room.bag(2, 0), 1);
        Due.is("many", room.number(0), 2);
        Due.is("one stays", room.shelf(0, 0), 3);
        Due.is("alone", room.shelf(0, 1), -1);
        Due.is("item", room.item(2, 7), 3);
        refused("bag none,9;", 1);
        refused("bag shelf 0,4;", 3);
        refused("bag shelf 0,-1;", 3);
        refused("bag shelf 0,0;", 8);
        refused("x0=shelf 0;bag x0,1;bag x0,1;", 7);
        refused("x0=shelf 0;bag x0,1;bag x0,0;", 7);
        refused("x0=shelf 0;bag x0,1;bag x0,99;", 3);
        refused("bag none,1/0;", 6);
        refused("bag shelf 9,1/0;", 3);
        runs("bag shelf 3,1;", 0);
    }

    private static void refusals() {
        refused("refuse 1/0;", 6);
        runs("refuse 77;", 9);
        Room room = runs("try{refuse 77;}on 9{r0=r9;}", 0);
        Due.is("what it told", room.number(0), 77);
        room = runs("try{refuse 3;}on 3{r0=1;}on 9{r0=2;}", 0);
        Due.is("its number is 9", room.number(0), 2);
        Due.is("what it told", room.number(9), 3);
        room = runs("try{r0=1/0;}on 6{r0=5;}", 0);
        Due.is("r9", room.number(9), 6);
    }

    private static void tries() {
        Room room = runs("try{r0=1/0;}on 1{r1=1;}on 6{r1=2;}on 0{r1=3;}on 6{r1=4;}r2=1;", 0);
        Due.is("the first that has it", room.number(1), 2);
        Due.is("behind the try", room.number(2), 1);
        room = runs("try{r0=1/0;}on 0{r1=3;}on 6{r1=2;}", 0);
        Due.is("0 has each", room.number(1), 3);
        runs("try{r0=1/0;}on 1{}on 2{}", 6);
        room = runs("try{try{r0=1/0;}on 1{r1=1;}r2=1;}on 6{r3=1;}r4=1;", 0);
        long[] outward = {0, 0, 0, 1, 1};
        for (int i = 0; i < 5; i++) {
            Due.is("outward", room.number(i), outward[i]);
        }
        room = runs("try{try{r0=1/0;}on 6{r1=len@0;}on 1{r2=1;}r3=1;}on 1{r4=1;}", 0);
        long[] inOn = {0, 0, 0, 0, 1};
        for (int i = 0; i < 5; i++) {
            Due.is("in an on", room.number(i), inOn[i]);
        }
        room = runs("while r0<3{try{if r0=1{refuse 5;}r1=r1+1;}on 9{r2=r2+1;}r0=r0+1;}", 0);
        Due.is("in a loop", room.number(1), 2);
        Due.is("in a loop", room.number(2), 1);
        room = runs("try{r1=1;}on 0{r1=2;}", 0);
        Due.is("none came up", room.number(1), 1);
        Due.is("r9 is as it was", room.number(9), 0);
        room = runs("try{while 1{if 1{r3=1/r2;}}}on 6{if 1{r4=1;}else{r4=2;}}r5=1;", 0);
        Due.is("out of a loop", room.number(4), 1);
        Due.is("and on", room.number(5), 1);
    }

    private static void always() {
        Room room = runs("try{r0=1;}always{r1=1;}r2=1;", 0);
        Due.is("always", room.number(1), 1);
        Due.is("behind", room.number(2), 1);
        room = runs("try{r0=1/0;}on 6{r0=2;}always{r1=r0;}r2=1;", 0);
        Due.is("behind the on", room.number(1), 2);
        room = runs("try{r0=1/0;}on 1{}always{r1=1;}r2=1;", 6);
        Due.is("behind a refusal", room.number(1), 1);
        Due.is("which goes on", room.number(2), 0);
        room = runs("try{stop;}always{r1=1;}r2=1;", 0);
        Due.is("behind a stop", room.number(1), 1);
        Due.is("which stops", room.number(2), 0);
        room = runs("try{refuse 1;}always{refuse 2;}", 9);
        room = runs("try{try{refuse 1;}always{r0=1/0;}}on 0{r1=r9;}", 0);
        Due.is("takes its place", room.number(1), 6);
        room = runs("try{try{stop;}always{r0=1/0;}}on 0{r1=r9;}r2=1;", 0);
        Due.is("takes a stop's place", room.number(1), 6);
        Due.is("and on", room.number(2), 1);
        room = runs("try{try{refuse 1;}always{stop;}}on 0{r1=r9;}r2=1;", 0);
        Due.is("a stop takes its place", room.number(1), 0);
        Due.is("and stops", room.number(2), 0);
        room = runs("try{try{refuse 41;}always{try{refuse 42;}on 9{r2=r9;}}}on 9{r1=r9;}", 0);
        Due.is("inner", room.number(2), 42);
        Due.is("outer", room.number(1), 41);
        room = runs("try{r0=1/0;}on 6{refuse 7;}always{r1=1;}", 9);
        Due.is("behind a refusal in an on", room.number(1), 1);
        room = runs("try{r0=1/0;}on 6{stop;}always{r1=1;}r2=1;", 0);
        Due.is("behind a stop in an on", room.number(1), 1);
        Due.is("stops", room.number(2), 0);
        room = runs("try{make@0 ints 2001;}on 0{r0=1;}always{r1=1;}", 11);
        Due.is("FULL is none", room.number(0), 0);
        Due.is("not when it is FULL", room.number(1), 0);
        room = room();
        Due.programme(room, "try{while 1{r0=r0+1;}}on 0{r2=1;}always{r1=1;}");
        Due.is("cut", room.run(0, 100), 10);
        Due.is("not when it is cut", room.number(1), 0);
        Due.is("cut is no refusal", room.number(2), 0);
    }

    private static void steps(String text, int due) {
        Room room = room();
        Due.is("programme " + text, Due.programme(room, text), 0);
        Due.is("just enough: " + text, due == 0 ? room.run(0, 1) : room.run(0, due), 0);
        Due.is("steps: " + text, room.count(14), due);
        Due.is("steps of all: " + text, room.count(13), due);
        if (due > 1) {
            Room other = room();
            Due.programme(other, text);
            Due.is("one too few: " + text, other.run(0, due - 1), 10);
            Due.is("steps: " + text, other.count(14), due - 1);
        }
    }

    private static void steps() {
        steps("", 0);
        steps("r0=1;", 1);
        steps("r0=1;x0=none;drop@0;", 3);
        steps("if 0{r0=1;}", 1);
        steps("if 1{r0=1;}else{r0=1;r0=2;}", 2);
        steps("if 0{r0=1;}else{r0=1;r0=2;}", 3);
        steps("while 0{}", 1);
        steps("while r0<3{r0=r0+1;}", 7);
        steps("try{}", 1);
        steps("try{r0=1/0;r0=1;}on 6{r0=1;}always{r1=1;}", 4);
        steps("stop;r0=1;", 1);
        steps("if 1{while 0{}}", 2);
        Room room = room();
        Due.programme(room, "r0=1;r0=2;r0=3;");
        Due.is("cut", room.run(0, 2), 10);
        Due.is("where one more would begin", room.number(0), 2);
        Due.is("again", room.run(0, 3), 0);
        Due.is("latest", room.count(14), 3);
        Due.is("all", room.count(13), 5);
    }

    private static void stepsOfNext() {
        steps("r0=next shelf 0;", 2);
        steps("r0=next shelf 3;", 2);
        steps("r0=next shelf 0+next shelf 1;", 3);
        steps("try{r0=next none;}on 1{}", 2);
        Room room = room();
        Due.programme(room, "r0=5;r0=next shelf 0;");
        Due.is("cut ahead of next", room.run(0, 2), 10);
        Due.is("nothing is set", room.number(0), 5);
    }

    private static void full() {
        runs("make@0 longs 2000;", 0);
        runs("make@0 longs 2001;", 11);
        runs("make@0 longs 999999999*999999999;", 11);
        runs("make@0 longs 1000;make@0 longs 1000;make@0 longs 0;", 0);
        Room room = runs("make@0 longs 1000;drop@0;make@0 longs 1001;", 11);
        Due.is("nothing is made", room.tray(0, 0), 0);
        Due.is("in the next run there is room", room.run(0, 5), 11);
        room = room();
        Due.programme(room, "make@0 longs 2000;");
        for (int i = 0; i < 100; i++) {
            Due.is("200,000 in all", room.run(0, 5), 0);
        }
        Due.is("one more run", room.run(0, 5), 11);
        Due.book(room, "office a 1 1 1;");
        Due.programme(room, "make@0 longs 0;make@1 bytes 1;");
        Due.is("of all books", room.run(0, 5), 11);
        Due.is("rows of no place", room.tray(0, 1), 0);
    }

    private static void allRuns() {
        Room room = room();
        Due.programme(room, "while 1{try{refuse 1;}on 9{r0=r0+1;}}");
        Due.is("refusals", room.run(0, 16000), 10);
        Due.is("4,000", room.number(0), 4000);
        Due.is("the next is FULL", room.run(0, 16000), 11);
        Due.is("0", room.number(0), 0);
        Due.book(room, "office a 1 1 1;");
        Due.programme(room, "try{r0=1/0;}on 6{}");
        Due.is("of all books", room.run(0, 5), 11);
        Room other = room();
        Due.programme(other, "while 1{}");
        for (int i = 0; i < 10; i++) {
            Due.is("cut", other.run(0, 20000), 10);
            Due.is("steps", other.count(13), 20000 * (i + 1));
        }
        Due.is("cut at once", other.run(0, 20000), 10);
        Due.is("none more", other.count(13), 200000);
        Due.is("none", other.count(14), 0);
        Due.book(other, "office a 1 1 1;");
        Due.is("stay counted", other.count(13), 200000);
        Due.programme(other, "");
        Due.is("nothing to begin", other.run(0, 1), 0);
        Due.programme(other, "stop;");
        Due.is("cut", other.run(0, 1), 10);
    }

    private static void wrongInputs() {
        Room room = room();
        Due.is("no programme", room.run(0, 5), -1);
        Due.programme(room, "r1=r1+1;r0=len@0;");
        Due.is("no office", room.run(-1, 5), -1);
        Due.is("no office", room.run(3, 5), -1);
        Due.is("no office", room.run(MAX, 5), -1);
        Due.is("n 0", room.run(0, 0), -1);
        Due.is("n 20001", room.run(0, 20001), -1);
        Due.is("n -1", room.run(0, MIN), -1);
        Due.is("20000", room.run(0, 20000), 1);
        Due.is("1", room.run(0, 1), 10);
        Due.is("no run", room.run(0, 0), -1);
        Due.is("of the latest that ran", room.number(1), 1);
        Due.is("of the latest that ran", room.count(14), 1);
        int[] wrong = {-1, 10, MIN, MAX};
        for (int k : wrong) {
            Due.fires("number", () -> room.number(k), Due.OUT_OF_BOUNDS);
        }
        int[] noHand = {-1, 4, MIN, MAX};
        for (int k : noHand) {
            Due.fires("held", () -> room.held(k), Due.OUT_OF_BOUNDS);
        }
        int[] noTray = {-1, 12, MIN, MAX};
        for (int k : noTray) {
            Due.fires("tray", () -> room.tray(k, 0), Due.OUT_OF_BOUNDS);
            Due.fires("tray", () -> room.tray(k, 5), Due.OUT_OF_BOUNDS);
        }
        Due.is("a new programme keeps what the run left", Due.programme(room, ""), 0);
        Due.is("number", room.number(1), 1);
    }
}
