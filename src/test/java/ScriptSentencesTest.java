/** Terms 6 (PROGRAMMES), their form, FAULTS, numbers and STEPS; promises 17 to 20; each sentence that names an edge by itself. */
public final class ScriptSentencesTest {
    private static final String TERMS = "Terms 6, PROGRAMMES";
    private static final int MIN = Integer.MIN_VALUE;
    private static final int MAX = Integer.MAX_VALUE;
    /** What ends by 1, by 2 and so on. */
    private static final String[] REFUSALS = {"r0=len@0;", "x0=parcel shelf 0;", "x0=shelf 9;", "make@0 ints -1;", "make@0 parcels 1;lay@0[0]shelf 0;",
        "r0=1/0;", "x0=shelf 0;bag x0,1;bag x0,1;", "bag shelf 0,0;", "refuse 9;"};

    public static void main(String[] args) {
        noStatements();
        registers();
        wrap();
        hands();
        emptyBlocks();
        comparisons();
        leftToRight();
        cutTowardsZero();
        rows();
        can();
        onNumbers();
        depth();
        depthAtFirst();
        zero();
        jumps();
        always();
        instead();
        stops();
        atFirst();
        steps();
        stepsOfNext();
        cut();
        inPlaceOf();
        runAnswers();
        runNone();
        runNoneOf();
        statements();
        units();
        numberThrows();
        heldThrows();
        Due.end("ScriptSentencesTest");
    }

    /** ITEM 0 is a letter of 5 to b, 1 a register of 7 to c, 2 a parcel of 9 to b, 3 a letter to here; coach 0 goes from b. */
    static Room room() {
        Room room = Due.roomOf("office a 101 0 0;office b 202 0 0;office c 303 0 0;office d 404 0 0;street s in a from 1 to 9 at 0 0 e walk 0;"
            + "street t in b from 1 to 9 at 0 0 e walk 0;street u in c from 1 to 9 at 0 0 e walk 0;service l letter most 9;service r register most 9;"
            + "service p parcel most 9;coach b a first 0 every 9 last 900 takes 5 holds 9;coach a b first 0 every 9 last 900 takes 5 holds 9;"
            + "coach a c first 0 every 9 last 900 takes 5 holds 9;");
        Due.is("accept", Due.accept(room, 0, 5, 0, "1 t 202"), 0);
        Due.is("accept", Due.accept(room, 1, 7, 0, "1 u 303"), 1);
        Due.is("accept", Due.accept(room, 2, 9, 0, "1 t 202"), 2);
        Due.is("accept", Due.accept(room, 0, 1, 0, "1 s 101"), 3);
        Due.is("accept", Due.accept(room, 0, 1, 1, "1 s 101"), 4);
        return room;
    }

    static Room runs(String text, int due) {
        Room room = room();
        Due.is("programme " + text, Due.programme(room, text), 0);
        Due.is("run of " + text, room.run(0, 20000), due);
        return room;
    }

    static void tells(String e, long due) {
        Due.is("tells " + e, runs("r0=7777777;r0=" + e + ";", 0).number(0), due);
    }

    /** The statements end by that REFUSAL, a try finds it, and what is behind is not done. */
    static void refused(String statements, int due) {
        runs(statements, due);
        Room room = runs("r8=1;try{" + statements + "r8=2;}on " + due + "{r7=r9;}r6=1;", 0);
        Due.is("caught: " + statements, room.number(7), due);
        Due.is("what is behind: " + statements, room.number(8), 1);
        Due.is("behind the try: " + statements, room.number(6), 1);
    }

    static void numbers(Room room, long... due) {
        for (int k = 0; k < due.length; k++) {
            Due.is("r" + k, room.number(k), due[k]);
        }
    }

    private static void good(String text) {
        Due.is("programme " + text, Due.programme(new Room(), text), 0);
    }

    private static void fault(int kind, String marked) {
        Due.programmeFault(kind, marked);
    }

    private static void noStatements() {
        Due.holds(TERMS, "6. PROGRAMMES: statements, none, too:");
        Room room = Due.roomOf("office a 1 0 0;");
        Due.is("an empty one", room.programme(), 0);
        Due.is("it runs", room.run(0, 1), 0);
        Due.is("without a STEP", room.count(14), 0);
        good(" ");
        good("\n\n");
        fault(1, "|;");
        fault(1, "r0=1;|;");
    }

    private static void registers() {
        Due.holds(TERMS, "rN: r0 .. r9,");
        Room room = runs("r0=1;r1=2;r2=3;r3=4;r4=5;r5=6;r6=7;r7=8;r8=9;r9=r0+r8;", 0);
        numbers(room, 1, 2, 3, 4, 5, 6, 7, 8, 9, 10);
        fault(1, "|r10=1;");
        fault(1, "|r=1;");
        fault(1, "|ra=1;");
        fault(1, "|r00=1;");
        fault(1, "|s0=1;");
        fault(1, "r0=|r10;");
    }

    private static void wrap() {
        Due.holds(TERMS, "numbers of 64 bits, that wrap;");
        Room room = runs("r1=1;r2=63;while r2{r1=r1*2;r2=r2-1;}r3=r1-1;r4=r3+1;r5=-r1;r6=r1*r1;r7=r1/-1;r8=r1%-1;r0=r3*2;", 0);
        numbers(room, -2, Long.MIN_VALUE, 0, Long.MAX_VALUE, Long.MIN_VALUE, Long.MIN_VALUE, 0, Long.MIN_VALUE, 0);
        tells("999999999*999999999*999999999", 999999999L * 999999999L * 999999999L);
        tells("-999999999*999999999*999999999*9", -999999999L * 999999999L * 999999999L * 9);
    }

    private static void hands() {
        Due.holds(TERMS, "xN: x0 .. x3, an ITEM or none.");
        Room room = runs("x0=shelf 0;x1=shelf 1;x2=x1;x3=shelf 3;x0=none;", 0);
        int[] due = {-1, 1, 1, 3};
        for (int k = 0; k < 4; k++) {
            Due.is("x" + k, room.held(k), due[k]);
        }
        fault(1, "|x4=none;");
        fault(1, "|x=none;");
        fault(1, "|x00=none;");
        fault(1, "|x9=none;");
        fault(1, "x0=|x4;");
        fault(1, "x0=|1;");
        fault(1, "r0=|x0;");
    }

    private static void emptyBlocks() {
        Due.holds(TERMS, "BLOCK: { statement .. } in these signs, none, too.");
        Room room = runs("if 1{}r0=1;if 0{}else{}r1=1;while 0{}r2=1;try{}r3=1;try{}on 0{}always{}r4=1;", 0);
        numbers(room, 1, 1, 1, 1, 1);
        fault(1, "if 1{|");
        fault(1, "if 1 |r0=1;");
        fault(1, "if 1{r0=1;|");
        fault(1, "if 1{r0=1|}");
        fault(1, "if 1{}|}");
        fault(1, "|{}");
        fault(1, "if 1 |(r0=1;)");
    }

    private static void comparisons() {
        Due.holds(TERMS, "E: SUM [ < SUM or = SUM ], which tells 1 or 0.");
        tells("1<2", 1);
        tells("2<2", 0);
        tells("3<2", 0);
        tells("-1<0", 1);
        tells("2=2", 1);
        tells("2=3", 0);
        tells("0=0", 1);
        tells("1+1<3", 1);
        tells("3<1+1", 0);
        tells("5", 5);
        tells("(2=2)+(1<2)", 2);
        Room room = runs("r1=1;r2=63;while r2{r1=r1*2;r2=r2-1;}r3=r1<r1-1;r4=r1-1<r1;r5=r1<0;r6=r1=-r1;", 0);
        Due.is("the least is less", room.number(3), 1);
        Due.is("than the greatest", room.number(4), 0);
        Due.is("and than 0", room.number(5), 1);
        Due.is("and is its own minus", room.number(6), 1);
        fault(1, "r0=1<2|<3;");
        fault(1, "r0=1=2|=3;");
        fault(1, "r0=1<2|=3;");
        fault(1, "r0=|<3;");
        fault(1, "r0=1<|;");
    }

    private static void leftToRight() {
        Due.holds(TERMS, "SUM: PRODUCT { + or - PRODUCT }. PRODUCT: UNIT { * or / or % UNIT },");
        tells("10-3-2", 5);
        tells("10-3+2", 9);
        tells("100/10/5", 2);
        tells("100/10*5", 50);
        tells("100%30*2", 20);
        tells("2+3*4", 14);
        tells("2*3+4", 10);
        tells("20-6/2", 17);
        tells("(20-6)/2", 7);
        tells("--5", 5);
        tells("-2*-3", 6);
        tells("-2-3", -5);
        tells("2--3", 5);
        fault(1, "r0=1+|;");
        fault(1, "r0=1+|+2;");
        fault(1, "r0=|*2;");
    }

    private static void cutTowardsZero() {
        Due.holds(TERMS, "cut towards 0.");
        tells("7/2", 3);
        tells("-7/2", -3);
        tells("7/-2", -3);
        tells("-7/-2", 3);
        tells("7%2", 1);
        tells("-7%2", -1);
        tells("7%-2", 1);
        tells("-7%-2", -1);
        tells("1/2", 0);
        tells("-1/2", 0);
        tells("0/5", 0);
        tells("0%5", 0);
    }

    private static void rows() {
        Due.holds(TERMS, "ROW: truths bytes signs shorts ints longs floats doubles items letters parcels registers (1 .. 12).");
        String[] rows = {"truths", "bytes", "signs", "shorts", "ints", "longs", "floats", "doubles", "items", "letters", "parcels", "registers"};
        for (int i = 0; i < rows.length; i++) {
            Room room = runs("make@" + i + " " + rows[i] + " 1;r0=sort@" + i + ";", 0);
            Due.is("the number of " + rows[i], room.number(0), i + 1);
            Due.is("the number of " + rows[i], room.tray(i, 0), i + 1);
        }
        fault(1, "make@0 |int 1;");
        fault(1, "make@0 |letter 1;");
        fault(1, "make@0 |many 1;");
        fault(1, "make@0 |1;");
        fault(1, "make@0 |5 1;");
    }

    private static void can() {
        Due.holds(TERMS, "FAULTS as of books: 1;");
        String[] faults = {"|5", "|x", "|else{}", "|on 1{}", "|always{}", "|len@0;", "r0|+1;", "r0=|;", "r0=1|", "r0=(1|;", "r0=1|);", "r0=len |0;",
            "r0=at@0|;", "r0=at@0[|];", "r0=at@0[1|;", "r0=code |1;", "x0=|many;", "x0=|truths;", "x0=|5;", "r0=1*|+1;", "r0=1/|;", "r0=1+|;", "r0=-|;", "x0=shelf |x0;", "x0=item |0;", "make |0 ints 1;", "drop@0|,",
            "same@0|;", "put@0 |1;", "put@0[1]|;", "lay@0[1]|5;", "slide@0 1|;", "slide@0 1,|1;", "slide@0 1,@0 1|;", "bag x0|;", "bag |0,0;",
            "refuse|;", "stop|", "stop |1;", "if|{}", "if 1|;", "if 1{}else|;", "if 1{}else |if 1{}", "while 1{}|else{}", "try|;", "try{}on|{}",
            "try{}on |r1{}", "try{}on 0|;", "try{}always{}|on 1{}", "try{}always{}|always{}", "try{}always|;", "r0=1;|.", "r0=1;\n\n|!", "r0=|office;"};
        for (String text : faults) {
            fault(1, text);
        }
    }

    private static void onNumbers() {
        Due.holds(TERMS, "4: behind on another NUMBER than 0 .. 9;");
        for (int k = 0; k <= 9; k++) {
            good("try{}on " + k + "{}");
        }
        good("try{}on 000000009{}");
        good("try{}on 9{}on 9{}on 0{}on 0{}");
        fault(4, "try{}on |10{}");
        fault(4, "try{}on |999999999{}");
        fault(4, "try{}on 0{}on |10{}");
        fault(1, "try{}on |-1{}");
        fault(1, "try{}on |1000000000{}");
        fault(1, "try{}on |x{}");
    }

    private static String many(int many, String what) {
        return what.repeat(many);
    }

    private static void depth() {
        Due.holds(TERMS, "5, at its first token: a BLOCK, a UNIT or an ITEM that lies within 20 BLOCKS, UNITS and ITEMS.");
        good(many(20, "if 1{") + many(20, "}"));
        fault(5, many(20, "if 1{") + "if |1{");
        fault(5, many(20, "try{") + "try|{}");
        good(many(19, "try{") + "try{}" + many(19, "}"));
        fault(5, many(20, "try{") + "r0=|1;");
        good(many(19, "try{") + "r0=1;" + many(19, "}"));
        fault(5, many(20, "try{") + "x0=|none;");
        good(many(19, "try{") + "x0=none;" + many(19, "}"));
        fault(5, many(20, "try{") + "drop@|0;");
        fault(5, many(19, "try{") + "drop@-|0;");
        good(many(20, "try{") + "stop;" + many(20, "}"));
        fault(5, "r0=" + many(20, "(") + "|7" + many(20, ")") + ";");
        fault(5, "r0=" + many(20, "-") + "|7;");
        fault(5, "r0=" + many(20, "len@") + "|7;");
        fault(5, "x0=" + many(20, "letter ") + "|x0;");
        fault(5, "r0=" + many(10, "code shelf ") + "|7;");
        fault(5, "r0=" + many(9, "code shelf ") + "at@0[code |none];");
        fault(5, "try{r0=" + many(19, "-") + "|7;}");
        tells(many(19, "(") + "7" + many(19, ")"), 7);
        tells(many(19, "-") + "7", -7);
        tells("is " + many(18, "letter ") + "none", 0);
        tells("code " + many(17, "letter ") + "shelf 0", 202);
        good("x0=item@" + many(18, "-") + "0[0];");
        fault(5, "x0=item@" + many(19, "-") + "|0[0];");
        good("x0=item@0[" + many(18, "-") + "0];");
        fault(5, "x0=item@0[" + many(19, "-") + "|0];");
        good("r0=at@0[" + many(18, "-") + "0];");
        fault(5, "r0=at@0[" + many(19, "-") + "|0];");
        Room room = runs(many(20, "try{") + "stop;" + many(20, "}") + "r0=1;", 0);
        Due.is("20 BLOCKS are done", room.count(14), 21);
        Due.is("and what is behind is not", room.number(0), 0);
        numbers(runs(many(9, "if 1{while r0<1{") + many(9, "r0=r0+1;}}") + "r1=1;", 0), 9, 1);
    }

    private static void depthAtFirst() {
        Due.holds(TERMS, "5, at its first token:");
        fault(5, many(20, "try{") + "r0=|(1);");
        fault(5, many(20, "try{") + "r0=|code none;");
        fault(1, many(20, "try{") + "r0=|;");
        fault(1, many(20, "try{") + "x0=|many;");
        fault(1, many(20, "try{") + "try|;");
        fault(1, many(20, "try{") + "|5");
        fault(5, many(20, "try{") + "put@|0[0]0;");
        good(many(20, "try{}"));
        good("r0=" + many(1000, "1+") + "1;");
        good(many(600, "r0=1;"));
    }

    private static void zero() {
        Due.holds(TERMS, "/ %: by 0: 6.");
        refused("r0=1/0;", 6);
        refused("r0=1%0;", 6);
        refused("r0=0/0;", 6);
        refused("r0=5/(2-2);", 6);
        Room room = runs("r1=5;r1=1/0;", 6);
        Due.is("nothing is set", room.number(1), 5);
    }

    private static void jumps() {
        Due.holds(TERMS, "A REFUSAL ends what is being done, outward to the innermost try in whose first BLOCK it came up: "
            + "the first on with its number, or with 0, is done instead: r9 is that number then, of OWN what the E told. With none it goes on outward.");
        numbers(runs("try{r0=1;r1=1/0;r2=1;}on 1{r3=1;}on 6{r4=r9;}on 6{r5=1;}on 0{r6=1;}r7=1;", 0), 1, 0, 0, 0, 6, 0, 0, 1, 0, 6);
        numbers(runs("try{r1=1/0;}on 0{r3=1;}on 6{r4=1;}", 0), 0, 0, 0, 1, 0, 0, 0, 0, 0, 6);
        numbers(runs("try{r1=1/0;}on 5{r3=1;}on 7{r4=1;}r5=1;", 6), 0, 0, 0, 0, 0, 0, 0, 0, 0, 0);
        numbers(runs("try{refuse 77;}on 9{r0=r9;}", 0), 77);
        numbers(runs("try{refuse 6;}on 6{r0=1;}on 9{r1=1;}", 0), 0, 1, 0, 0, 0, 0, 0, 0, 0, 6);
        numbers(runs("try{refuse -5;}on 0{r0=1;}", 0), 1, 0, 0, 0, 0, 0, 0, 0, 0, -5);
        numbers(runs("try{try{r1=1/0;}on 6{r2=1;}r3=1;}on 6{r4=1;}r5=1;", 0), 0, 0, 1, 1, 0, 1);
        numbers(runs("try{try{r1=1/0;}on 1{r2=1;}r3=1;}on 6{r4=1;}r5=1;", 0), 0, 0, 0, 0, 1, 1);
        numbers(runs("try{try{r1=1/0;}on 6{r2=len@0;}on 1{r3=1;}r4=1;}on 1{r5=r9;}", 0), 0, 0, 0, 0, 0, 1);
        numbers(runs("try{try{}always{r1=1/0;}r2=1;}on 6{r3=1;}", 0), 0, 0, 0, 1);
        numbers(runs("try{while 1{if 1{if 1{r1=1/0;}}}}on 6{r3=1;}r4=1;", 0), 0, 0, 0, 1, 1);
        numbers(runs("try{r1=1;}on 0{r3=1;}r4=1;", 0), 0, 1, 0, 0, 1, 0, 0, 0, 0, 0);
        numbers(runs("while r0<3{try{r1=1/(r0-1);r2=r2+1;}on 6{r3=r3+1;}r0=r0+1;}", 0), 3, 1, 2, 1);
        runs("try{r1=1/0;}", 6);
        runs("refuse 0;", 9);
    }

    private static void always() {
        Due.holds(TERMS, "always is done behind that, whatever happened, also behind a stop (but not when the run is cut or FULL);");
        numbers(runs("try{r0=1;}always{r1=r0+1;}r2=1;", 0), 1, 2, 1);
        numbers(runs("try{r0=1/0;}on 6{r0=5;}always{r1=r0+1;}r2=1;", 0), 5, 6, 1);
        numbers(runs("try{r0=1/0;}on 1{r0=5;}always{r1=1;}r2=1;", 6), 0, 1, 0);
        numbers(runs("try{r0=1/0;}always{r1=1;}r2=1;", 6), 0, 1, 0);
        numbers(runs("try{r0=1/0;}on 6{r0=len@0;}always{r1=1;}r2=1;", 1), 0, 1, 0);
        numbers(runs("try{stop;}always{r1=1;}r2=1;", 0), 0, 1, 0);
        numbers(runs("try{r0=1/0;}on 6{stop;}always{r1=1;}r2=1;", 0), 0, 1, 0);
        numbers(runs("try{try{stop;}always{r1=1;}r2=1;}always{r3=1;}r4=1;", 0), 0, 1, 0, 1, 0);
        numbers(runs("try{try{make@0 bytes 2001;}always{r1=1;}}on 0{r2=1;}always{r3=1;}r4=1;", 11), 0, 0, 0, 0, 0);
        Room room = room();
        Due.programme(room, "try{try{while 1{r0=r0+1;}}always{r1=1;}}on 0{r2=1;}always{r3=1;}");
        Due.is("cut", room.run(0, 102), 10);
        numbers(room, 50, 0, 0, 0);
        Due.programme(room, "try{r0=1;}always{r1=1;r2=1;}r3=1;");
        Due.is("cut in always", room.run(0, 3), 10);
        numbers(room, 1, 1, 0, 0);
    }

    private static void instead() {
        Due.holds(TERMS, "what ends it otherwise than at its end takes the place of that.");
        numbers(runs("try{try{refuse 1;}always{r0=1/0;}}on 0{r1=r9;}r2=1;", 0), 0, 6, 1);
        numbers(runs("try{try{stop;}always{r0=1/0;}}on 0{r1=r9;}r2=1;", 0), 0, 6, 1);
        numbers(runs("try{try{refuse 1;}always{stop;}}on 0{r1=1;}r2=1;", 0), 0, 0, 0);
        runs("try{refuse 1;}always{stop;}", 0);
        runs("try{r0=1/0;}always{refuse 2;}", 9);
        runs("try{stop;}always{r0=1/0;}", 6);
        runs("try{refuse 1;}always{make@0 bytes 2001;}", 11);
        numbers(runs("try{try{refuse 41;}always{refuse 42;}}on 9{r1=r9;}", 0), 0, 42);
        numbers(runs("try{try{refuse 41;}always{try{refuse 42;}on 9{r2=r9;}}}on 9{r1=r9;}", 0), 0, 41, 42);
        numbers(runs("try{try{r0=1/0;}always{try{refuse 42;}on 9{}}}on 0{r1=r9;}", 0), 0, 6);
    }

    private static void stops() {
        Due.holds(TERMS, "stop ends the run.");
        numbers(runs("r0=1;stop;r1=1;", 0), 1, 0);
        numbers(runs("while 1{if 1{r0=1;stop;}}r1=1;", 0), 1, 0);
        numbers(runs("try{stop;}on 0{r0=1;}r1=1;", 0), 0, 0);
    }

    private static void atFirst() {
        Due.holds(TERMS, "A RUN at an office: all TRAYS hold nothing, rN are 0, xN none at first.");
        Room room = room();
        Due.programme(room, "r0=r1;r1=5;r2=sort@3;r3=is x2;r4=r9;try{refuse 8;}on 9{}x2=shelf 0;make@3 longs 4;make@4 items 2;");
        for (int i = 0; i < 2; i++) {
            Due.is("run", room.run(0, 99), 0);
            numbers(room, 0, 5, 0, 0, 0, 0, 0, 0, 0, 8);
        }
        Due.programme(room, "");
        Due.is("an empty one", room.run(0, 99), 0);
        numbers(room, 0, 0, 0, 0, 0, 0, 0, 0, 0, 0);
        for (int t = 0; t < 12; t++) {
            Due.is("TRAY " + t, room.tray(t, 0), 0);
        }
        Due.is("x2", room.held(2), -1);
    }

    private static void steps(String text, int due) {
        Room room = room();
        Due.is("programme " + text, Due.programme(room, text), 0);
        Due.is("just as many: " + text, room.run(0, Math.max(1, due)), 0);
        Due.is("STEPS: " + text, room.count(14), due);
        Due.is("STEPS of all: " + text, room.count(13), due);
        if (due > 1) {
            Due.is("one fewer: " + text, room.run(0, due - 1), 10);
            Due.is("STEPS: " + text, room.count(14), due - 1);
            Due.is("STEPS of all: " + text, room.count(13), 2 * due - 1);
        }
    }

    private static void steps() {
        Due.holds(TERMS, "A STEP is each statement as it begins, but of while each time that its E is looked at;");
        steps("", 0);
        steps("r0=1;", 1);
        steps("r0=1;x0=none;make@0 ints 1;drop@0;same@1@0;make@0 ints 1;put@0[0]1;slide@0 0,@0 0,1;", 8);
        steps("make@0 items 1;lay@0[0]none;", 2);
        steps("if 0{r0=1;}", 1);
        steps("if 1{r0=1;}", 2);
        steps("if 0{r0=1;}else{r0=1;r0=2;}", 3);
        steps("if 1{r0=1;}else{r0=1;r0=2;}", 2);
        steps("while 0{r0=1;}", 1);
        steps("while r0<1{r0=1;}", 3);
        steps("while r0<3{r0=r0+1;}", 7);
        steps("try{}", 1);
        steps("try{r0=1/0;r0=1;}on 6{r0=1;}on 0{r0=1;}always{r1=1;}", 4);
        steps("try{refuse 1;}on 9{stop;}", 3);
        steps("stop;r0=1;", 1);
        steps("while 1{stop;}", 2);
        steps("try{while 1{r0=1/0;}}on 6{}", 3);
        steps("try{while 1/0{}}on 6{}", 2);
        steps("if 1{while 0{}}", 2);
        steps("r0=code shelf 0+weight shelf 1+kind shelf 2+is none+many;", 1);
    }

    private static void stepsOfNext() {
        Due.holds(TERMS, "and each next that tells a coach or -1, ahead of that.");
        steps("r0=next shelf 0;", 2);
        steps("r0=next shelf 3;", 2);
        steps("r0=next shelf 0+next shelf 1;", 3);
        steps("while next shelf 0<0{}", 2);
        steps("try{r0=next none;}on 1{}", 2);
        steps("try{r0=next shelf 9;}on 3{}", 2);
        Room room = room();
        Due.programme(room, "r0=5;r0=next shelf 0;");
        Due.is("cut ahead of that", room.run(0, 2), 10);
        Due.is("nothing is set", room.number(0), 5);
    }

    private static void cut() {
        Due.holds(TERMS, "The run is cut where one more than told, or than 200,000 in all runs, would begin.");
        Room room = room();
        Due.programme(room, "r0=1;r0=2;r0=3;");
        Due.is("three", room.run(0, 3), 0);
        Due.is("two", room.run(0, 2), 10);
        Due.is("two were done", room.number(0), 2);
        Due.is("one", room.run(0, 1), 10);
        Due.is("one was done", room.number(0), 1);
        Due.programme(room, "while 1{r0=r0+1;}");
        Due.is("20,000", room.run(0, 20000), 10);
        Due.is("10,000 rounds", room.number(0), 10000);
        for (int i = 0; i < 8; i++) {
            room.run(0, 20000);
        }
        Due.is("so many", room.count(13), 180006);
        Due.is("cut by all runs", room.run(0, 20000), 10);
        Due.is("the rest of 200,000", room.count(14), 19994);
        Due.is("200,000", room.count(13), 200000);
        Due.is("no more", room.run(0, 1), 10);
        Due.is("none", room.count(14), 0);
        Due.is("200,000", room.count(13), 200000);
        Due.programme(room, "");
        Due.is("none would begin", room.run(0, 1), 0);
    }

    private static void inPlaceOf() {
        Due.holds("Promise 17: programme", "The TAPE is read as a programme, in place of the one there was: 0; or its FAULT, and that stays.");
        Room room = room();
        Due.is("one", Due.programme(room, "r0=1;"), 0);
        Due.is("it runs", room.run(0, 9), 0);
        Due.is("another", Due.programme(room, "r0=2;"), 0);
        Due.is("what the run left stays", room.number(0), 1);
        Due.is("it runs", room.run(0, 9), 0);
        Due.is("in its place", room.number(0), 2);
        Due.is("a FAULT", Due.programme(room, "r0=3;r1=3;stop"), 1 + 16 * 14);
        Due.is("a FAULT", Due.programme(room, "r0=3;try{}on 10{}"), 4 + 16 * 13);
        Due.is("it stays", room.run(0, 9), 0);
        Due.is("as it was", room.number(0), 2);
        Due.is("an empty one", room.programme(), 0);
        Due.is("in its place", room.run(0, 9), 0);
        Due.is("as it does nothing", room.number(0), 0);
        Room none = Due.roomOf("office a 1 0 0;");
        Due.is("a FAULT", Due.programme(none, "r0"), 1 + 16 * 2);
        Due.is("there is none still", none.run(0, 9), -1);
    }

    private static void runAnswers() {
        Due.holds(TERMS, "REFUSALS: 1 NOTHING, 2 KIND, 3 PLACE, 4 SIZE, 5 STORE, 6 ZERO, 7 ELSEWHERE, 8 NOT FROM HERE, 9 OWN.");
        for (int k = 1; k <= 9; k++) {
            refused(REFUSALS[k - 1], k);
        }
        Due.holds("Promise 18: run", "0 it came to its end or a stop, 1 .. 9 that REFUSAL ended it, 10 it was cut, 11 FULL.");
        runs("r0=1;", 0);
        runs("stop;", 0);
        for (int k = 1; k <= 9; k++) {
            runs(REFUSALS[k - 1], k);
        }
        runs("while 1{}", 10);
        runs("make@0 ints 2001;", 11);
    }

    private static void runNone() {
        Due.holds("Promise 18: run", "The programme RUNS at an office, for at most n STEPS (1 .. 20000):");
        Room room = room();
        Due.is("no programme", room.run(0, 5), -1);
        Due.programme(room, "r0=here;r1=many;while 1{r2=r2+1;}");
        int[][] wrong = {{-1, 5}, {4, 5}, {16, 5}, {MIN, 5}, {MAX, 5}, {0, 0}, {0, -1}, {0, 20001}, {0, MIN}, {0, MAX}};
        for (int[] w : wrong) {
            Due.is("run(" + w[0] + ", " + w[1] + ")", room.run(w[0], w[1]), -1);
        }
        Due.is("no STEPS", room.count(13), 0);
        Due.is("20000", room.run(0, 20000), 10);
        numbers(room, 0, 4, 9999);
        Due.is("1", room.run(3, 1), 10);
        numbers(room, 3, 0, 0);
        Due.is("none again", room.run(0, 0), -1);
        numbers(room, 3, 0, 0);
        Due.is("STEPS of the latest that ran", room.count(14), 1);
    }

    private static void runNoneOf() {
        Due.holds("Promise 18: run", "NONE: no programme, no such office, another n.");
        Room room = Due.roomOf("office a 1 0 0;");
        Due.is("no programme", room.run(0, 1), -1);
        Due.is("a programme", room.programme(), 0);
        Due.is("run", room.run(0, 1), 0);
        Due.is("no such office", room.run(1, 1), -1);
        Due.is("n 0", room.run(0, 0), -1);
        Due.is("n 20000", room.run(0, 20000), 0);
        Due.is("n 20001", room.run(0, 20001), -1);
        Due.is("a book", room.book(), 0);
        Due.is("no office", room.run(0, 1), -1);
    }

    private static void statements() {
        Due.holds(TERMS, "rN = E ; xN = ITEM ; make TRAY ROW E ; drop TRAY ; same TRAY TRAY ; put TRAY [ E ] E ; lay TRAY [ E ] ITEM ; "
            + "slide TRAY E , TRAY E , E ; bag ITEM , E ; refuse E ; stop ; if E BLOCK [ else BLOCK ] while E BLOCK "
            + "try BLOCK { on NUMBER BLOCK } [ always BLOCK ].");
        String[] all = {"r0 = 1 ;", "x0 = none ;", "make @ 0 ints 1 ;", "drop @ 0 ;", "same @ 0 @ 1 ;", "put @ 0 [ 1 ] 2 ;", "lay @ 0 [ 1 ] none ;",
            "slide @ 0 1 , @ 2 3 , 4 ;", "bag none , 1 ;", "refuse 1 ;", "stop ;", "if 1 { }", "if 1 { stop ; } else { stop ; }", "while 1 { stop ; }",
            "try { stop ; }", "try { } on 1 { } on 2 { stop ; }", "try { } always { }", "try { } on 0 { } on 0 { } always { stop ; }"};
        for (String statement : all) {
            good(statement);
            good(statement + statement);
            good(statement.replace(" ", "\n"));
            for (int at = statement.lastIndexOf(' '); at > 0; at = statement.lastIndexOf(' ', at - 1)) {
                String head = statement.substring(0, at);
                boolean isWhole = head.endsWith("}") && head.replaceAll("[^{]", "").length() == head.replaceAll("[^}]", "").length();
                if (isWhole) {
                    good(head);
                } else {
                    fault(1, head + "|");
                }
            }
        }
        fault(1, "if 1{}else{}|else{}");
        fault(1, "r0|-1;");
        fault(1, "x0|-none;");
    }

    private static void units() {
        Due.holds(TERMS, "UNIT: NUMBER | rN | ( E ) | - UNIT | len TRAY | sort TRAY | at TRAY [ E ] | code ITEM | weight ITEM | kind ITEM | next ITEM "
            + "| is ITEM | many | here | time. TRAY: @ UNIT. ITEM: xN | none | shelf UNIT | item TRAY [ E ] | letter ITEM | parcel ITEM | register ITEM.");
        String[] units = {"7", "r3", "( 1 < 2 )", "- 5", "len @ 0", "sort @ 0", "at @ 0 [ 0 ]", "code x0", "weight x0", "kind x0", "next x0", "is x0",
            "many", "here", "time"};
        String before = "x0=shelf 0;make@0 ints 1;make@1 items 1;";
        for (String unit : units) {
            runs(before + "r0=" + unit + ";", 0);
            runs(before + "r0=-" + unit + ";", 0);
            runs(before + "r0=1+" + unit + "*" + unit + ";", 0);
            runs(before + "drop@(0*" + unit + ");", 0);
        }
        String[] items = {"x0", "none", "shelf 0", "item @ 1 [ 0 ]", "letter x0", "parcel none", "register none", "letter letter shelf 0", "shelf - - 1"};
        for (String item : items) {
            runs(before + "x1=" + item + ";r0=is " + item + ";lay@1[0]" + item + ";", 0);
        }
        tells("(1<2)+(1=1)", 2);
        numbers(runs("make@1 ints 2;put@1[1]1;make@0 ints 1;put@0[0]1;r0=at@at@0[0][1];r1=len@at@0[0];r2=at@1[at@0[0]]+1;r3=len@-(-1);", 0), 1, 2, 2, 2);
        numbers(runs("r0=len@len@0;", 1), 0);
        fault(1, "r0=|@0;");
        fault(1, "r0=at@0|;");
        fault(1, "x0=shelf -|;");
        fault(1, "x0=letter |0;");
    }

    private static void numberThrows() {
        Due.holds("Promise 19: number", "rN behind the latest run() that ran (0 ahead of any). IndexOutOfBoundsException: there is none such.");
        Room room = room();
        numbers(room, 0, 0, 0, 0, 0, 0, 0, 0, 0, 0);
        int[] wrong = {-1, 10, 11, MIN, MAX};
        for (int k : wrong) {
            Due.fires("number(" + k + ")", () -> room.number(k), Due.OUT_OF_BOUNDS);
        }
        Due.programme(room, "r9=4;r0=-1;r5=1/0;");
        numbers(room, 0, 0, 0, 0, 0, 0, 0, 0, 0, 0);
        Due.is("a run that is refused", room.run(0, 9), 6);
        numbers(room, -1, 0, 0, 0, 0, 0, 0, 0, 0, 4);
        Due.is("that does not run", room.run(0, 0), -1);
        numbers(room, -1, 0, 0, 0, 0, 0, 0, 0, 0, 4);
        Due.is("that is cut", room.run(0, 1), 10);
        numbers(room, 0, 0, 0, 0, 0, 0, 0, 0, 0, 4);
    }

    private static void heldThrows() {
        Due.holds("Promise 20: held", "Likewise the ITEM of xN; NONE. IndexOutOfBoundsException: there is none such.");
        Room room = room();
        for (int k = 0; k < 4; k++) {
            Due.is("x" + k, room.held(k), -1);
        }
        int[] wrong = {-1, 4, 9, MIN, MAX};
        for (int k : wrong) {
            Due.fires("held(" + k + ")", () -> room.held(k), Due.OUT_OF_BOUNDS);
        }
        Due.programme(room, "x0=shelf 0;x3=shelf 3;x1=shelf 4;");
        Due.is("a run that is refused", room.run(0, 9), 3);
        int[] due = {0, -1, -1, 3};
        for (int k = 0; k < 4; k++) {
            Due.is("x" + k, room.held(k), due[k]);
        }
        Due.is("that does not run", room.run(9, 9), -1);
        Due.is("x3", room.held(3), 3);
        Due.is("that is cut", room.run(0, 1), 10);
        Due.is("x3", room.held(3), -1);
        Due.is("x0", room.held(0), 0);
    }
}
