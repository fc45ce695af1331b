/** Terms 6 (PROGRAMMES), of TRAYS and ITEMS; promises 21 and 22; each sentence that names an edge by itself. */
public final class TraySentencesTest {
    private static final String TERMS = "Terms 6, PROGRAMMES";
    private static final int MIN = Integer.MIN_VALUE;
    private static final int MAX = Integer.MAX_VALUE;
    /** r1 is 2^32, r2 the least number of 64 bits, r3 the greatest. */
    private static final String GREAT = "r1=65536*65536;r2=r1*16384*32768*4;r3=r2-1;";
    private static final String FIVE = "make@0 ints 5;put@0[0]1;put@0[1]2;put@0[2]3;put@0[3]4;put@0[4]5;";
    private static final String[] ROWS = {"truths", "bytes", "signs", "shorts", "ints", "longs", "floats", "doubles", "items", "letters", "parcels",
        "registers"};

    public static void main(String[] args) {
        trayNumbers();
        oneRow();
        truths();
        wholeNumbers();
        longs();
        nearest();
        cutNumbers();
        itemRows();
        sorts();
        atFirst();
        fromTheLeft();
        refusedStatements();
        len();
        sort();
        at();
        put();
        item();
        lay();
        ofSort();
        ofItems();
        next();
        is();
        shelf();
        manyHereTime();
        makeSize();
        makeFull();
        newRow();
        drop();
        same();
        slideOverlap();
        slideNothing();
        slideKinds();
        slidePlaces();
        slideSorts();
        bag();
        refuse();
        trayTold();
        trayThrows();
        place();
        placeThrows();
        Due.end("TraySentencesTest");
    }

    private static Room runs(String text, int due) {
        return ScriptSentencesTest.runs(text, due);
    }

    private static void refused(String statements, int due) {
        ScriptSentencesTest.refused(statements, due);
    }

    private static void numbers(Room room, long... due) {
        ScriptSentencesTest.numbers(room, due);
    }

    private static void holds(Room room, int tray, long... due) {
        Due.is("places of TRAY " + tray, room.tray(tray, 1), due.length);
        for (int k = 0; k < due.length; k++) {
            Due.is("TRAY " + tray + ", place " + k, room.place(tray, k), due[k]);
        }
    }

    private static void trayNumbers() {
        Due.holds(TERMS, "@: none of 0 .. 11: 3.");
        Room room = runs("make@0 bytes 1;make@11 bytes 2;r0=len@0;r4=len@11;", 0);
        numbers(room, 1, 0, 0, 0, 2);
        String[] wrong = {"-1", "12", "999999999", "r1", "(r1+1)", "r2", "r3"};
        for (String t : wrong) {
            refused(GREAT + "r0=sort@" + t + ";", 3);
            refused(GREAT + "drop@" + t + ";", 3);
            refused(GREAT + "make@" + t + " ints 1;", 3);
            refused(GREAT + "same@0@" + t + ";", 3);
            refused(GREAT + "same@" + t + "@0;", 3);
        }
        refused("r0=len@12;", 3);
        refused("r0=at@12[0];", 3);
        refused("put@12[0]0;", 3);
        refused("lay@12[0]none;", 3);
        refused("x0=item@12[0];", 3);
        refused("slide@12 0,@0 0,0;", 3);
        refused("slide@0 0,@12 0,0;", 3);
    }

    private static void oneRow() {
        Due.holds(TERMS, "TRAYS 0 .. 11 hold a row each, or nothing; several may hold one row.");
        Room room = runs("make@0 ints 3;same@5@0;same@7@5;put@5[1]9;make@0 bytes 1;put@7[2]8;r0=at@5[2];r1=at@7[1];r2=at@0[0];", 0);
        numbers(room, 8, 9, 0);
        holds(room, 5, 0, 9, 8);
        holds(room, 7, 0, 9, 8);
        Due.is("they hold the same row", room.tray(7, 2), 5);
        Due.is("the first holds another one", room.tray(0, 2), 0);
    }

    private static void kept(String row, String e, long due) {
        Room room = runs(GREAT + "make@3 " + row + " 3;put@3[1]" + e + ";r0=at@3[1];", 0);
        Due.is(row + " keep " + e, room.number(0), due);
        holds(room, 3, 0, due, 0);
    }

    private static void truths() {
        Due.holds(TERMS, "Places of truths hold 0 or 1, of signs 0 .. 65535,");
        kept("truths", "65536", 1);
        kept("signs", "65535", 65535);
        kept("signs", "65536", 0);
        kept("signs", "-1", 65535);
        Due.holds(TERMS, "put: there is of truths 1 unless the number is 0,");
        kept("truths", "0", 0);
        kept("truths", "1", 1);
        kept("truths", "2", 1);
        kept("truths", "-1", 1);
        kept("truths", "256", 1);
        kept("truths", "r1", 1);
        kept("truths", "r2", 1);
    }

    private static void wholeNumbers() {
        Due.holds(TERMS, "of bytes, signs, shorts, ints its lowest bits,");
        kept("bytes", "127", 127);
        kept("bytes", "128", -128);
        kept("bytes", "255", -1);
        kept("bytes", "256", 0);
        kept("bytes", "-128", -128);
        kept("bytes", "-129", 127);
        kept("bytes", "r3", -1);
        kept("signs", "65535", 65535);
        kept("signs", "65536", 0);
        kept("signs", "65537", 1);
        kept("signs", "-1", 65535);
        kept("signs", "r2", 0);
        kept("shorts", "32767", 32767);
        kept("shorts", "32768", -32768);
        kept("shorts", "65535", -1);
        kept("shorts", "-32769", 32767);
        kept("shorts", "r1", 0);
        kept("ints", "r1/2-1", 2147483647);
        kept("ints", "r1/2", -2147483648);
        kept("ints", "r1-1", -1);
        kept("ints", "r1", 0);
        kept("ints", "r1+5", 5);
        kept("ints", "-r1/2-1", 2147483647);
    }

    private static void longs() {
        Due.holds(TERMS, "of bytes, shorts, ints, longs numbers of 8, 16, 32, 64 bits, of floats and doubles such of 32 and 64;");
        kept("bytes", "r3", -1);
        kept("shorts", "r1/131072*3", -32768);
        kept("ints", "r3", -1);
        kept("floats", "16777217", 16777216);
        kept("doubles", "16777217", 16777217);
        kept("longs", "r1", 1L << 32);
        kept("longs", "r2", Long.MIN_VALUE);
        kept("longs", "r3", Long.MAX_VALUE);
        kept("longs", "-1", -1);
    }

    private static void nearest() {
        Due.holds(TERMS, "of floats, doubles the nearest one.");
        kept("floats", "16777216", 16777216);
        kept("floats", "16777217", 16777216);
        kept("floats", "16777218", 16777218);
        kept("floats", "16777219", 16777220);
        kept("floats", "-16777217", -16777216);
        kept("floats", "-16777219", -16777220);
        kept("floats", "123456789", 123456792);
        kept("floats", "7", 7);
        kept("doubles", "r1*2097152", 1L << 53);
        kept("doubles", "r1*2097152+1", 1L << 53);
        kept("doubles", "r1*2097152+2", (1L << 53) + 2);
        kept("doubles", "r1*2097152+3", (1L << 53) + 4);
        kept("doubles", "-r1*2097152-3", -(1L << 53) - 4);
        kept("doubles", "16777217", 16777217);
        kept("doubles", "999999999", 999999999);
    }

    private static void cutNumbers() {
        Due.holds(TERMS, "at tells the number (of floats, doubles cut, those beyond 64 bits as their ends).");
        kept("floats", "r3", Long.MAX_VALUE);
        kept("floats", "r2", Long.MIN_VALUE);
        kept("doubles", "r3", Long.MAX_VALUE);
        kept("doubles", "r3-1", Long.MAX_VALUE);
        kept("doubles", "r3-511", Long.MAX_VALUE);
        kept("doubles", "r3-512", Long.MAX_VALUE - 1023);
        kept("doubles", "r2", Long.MIN_VALUE);
        kept("doubles", "r2+1", Long.MIN_VALUE);
        Room room = runs(GREAT + "make@0 floats 2;make@1 floats 2;put@0[0]r3;put@0[1]16777217;slide@0 0,@1 0,2;", 0);
        holds(room, 1, Long.MAX_VALUE, 16777216);
    }

    private static void itemRows() {
        Due.holds(TERMS, "of items any ITEM or none, of letters, parcels, registers one of that SORT or none;");
        Room room = runs("make@0 items 5;lay@0[0]shelf 0;lay@0[1]shelf 1;lay@0[2]shelf 2;lay@0[3]shelf 3;lay@0[1]none;"
            + "make@1 letters 2;lay@1[1]shelf 0;lay@1[0]none;make@2 parcels 2;lay@2[0]shelf 2;lay@2[1]none;"
            + "make@3 registers 2;lay@3[0]shelf 1;lay@3[1]none;", 0);
        holds(room, 0, 0, -1, 2, 3, -1);
        holds(room, 1, -1, 0);
        holds(room, 2, 2, -1);
        holds(room, 3, 1, -1);
        String[] rows = {"letters", "parcels", "registers"};
        boolean[][] fits = {{true, true, false, true}, {false, false, true, false}, {false, true, false, false}};
        for (int row = 0; row < 3; row++) {
            for (int item = 0; item < 4; item++) {
                runs("make@0 " + rows[row] + " 1;lay@0[0]shelf " + item + ";", fits[row][item] ? 0 : 5);
            }
        }
    }

    private static void sorts() {
        Due.holds(TERMS, "register is a letter, too.");
        Room room = runs("x0=letter shelf 1;x1=register letter shelf 1;x2=letter register shelf 1;make@0 letters 1;lay@0[0]x0;"
            + "make@1 registers 1;make@2 letters 1;lay@1[0]x0;slide@1 0,@2 0,1;x3=item@2[0];", 0);
        for (int k = 0; k < 4; k++) {
            Due.is("x" + k, room.held(k), 1);
        }
        refused("x0=register shelf 0;", 2);
        refused("x0=letter shelf 2;", 2);
        refused("make@0 registers 1;lay@0[0]shelf 0;", 5);
    }

    private static void atFirst() {
        Due.holds(TERMS, "All 0 (none) at first.");
        for (int i = 0; i < ROWS.length; i++) {
            long due = i < 8 ? 0 : -1;
            holds(runs("make@4 " + ROWS[i] + " 3;", 0), 4, due, due, due);
        }
        Room room = room("make@4 longs 3;put@4[0]7;put@4[1]8;put@4[2]9;");
        Due.is("one run", room.run(0, 99), 0);
        Due.programme(room, "make@5 bytes 2;make@4 items 1;");
        Due.is("another one", room.run(0, 99), 0);
        holds(room, 5, 0, 0);
        holds(room, 4, -1);
    }

    private static Room room(String programme) {
        Room room = ScriptSentencesTest.room();
        Due.is("programme " + programme, Due.programme(room, programme), 0);
        return room;
    }

    private static void fromTheLeft() {
        Due.holds(TERMS, "What stands in a statement, E, ITEM is worked out from the left; then the first of these that holds:");
        refused("r0=1/0+len@0;", 6);
        refused("r0=len@0+1/0;", 1);
        refused("r0=1/0<len@0;", 6);
        refused("r0=(1/0)/0+len@0;", 6);
        refused("r0=len@0/0;", 1);
        refused("put@0[1/0]len@0;", 6);
        refused("put@0[len@0]1/0;", 1);
        refused("put@0[0]1/0;", 6);
        refused("put@12[1/0]0;", 3);
        refused("r0=at@0[1/0];", 6);
        refused("lay@0[1/0]shelf 9;", 6);
        refused("lay@0[0]shelf 9;", 3);
        refused("lay@0[0]parcel shelf 0;", 2);
        refused("make@0 ints 1/0;", 6);
        refused("bag none,1/0;", 6);
        refused("bag shelf 9,1/0;", 3);
        refused("bag parcel shelf 0,1/0;", 2);
        refused("same@12@(1/0);", 3);
        refused("same@0@(1/0);", 6);
        refused("slide@0 1/0,@12 0,0;", 6);
        refused("slide@12 1/0,@0 0,0;", 3);
        refused("slide@0 0,@12 1/0,0;", 3);
        refused("slide@0 0,@1 1/0,len@0;", 6);
        refused("slide@0 0,@1 0,1/0;", 6);
        refused("refuse 1/0;", 6);
        refused("if 1/0{}", 6);
        refused("while 1/0{}", 6);
        refused("x0=shelf(1/0);", 6);
        refused("x0=item@0[1/0];", 6);
        String[] zeros = {"x0=shelf(99/0);", "r0=sort@(99/0);", "drop@(99/0);", "make@(99/0)ints 1;", "make@0 ints -99/0;", "make@0 ints 9999/0;",
            "put@0[99/0]1;", "r0=at@0[99/0];", "x0=item@0[99/0];", "lay@0[99/0]none;", "slide@0 99/0,@0 0,0;", "slide@0 0,@0 0,99/0;", "bag none,99/0;",
            "same@(99/0)@12;", "same@0@(99/0);", "r0=1%0/0;", "r0=99/0*len@0;", "r0=(99/0)%0;", "r0=code shelf(99/0);", "x0=parcel shelf(99/0);"};
        for (String statement : zeros) {
            refused(statement, 6);
        }
    }

    private static void refusedStatements() {
        Due.holds(TERMS, "A REFUSAL ends what is being done,");
        String before = "make@0 ints 3;put@0[0]4;put@0[1]5;make@1 items 2;lay@1[0]shelf 2;make@2 letters 2;lay@2[0]shelf 0;x0=shelf 1;x1=shelf 3;r1=7;r2=8;";
        String[] all = {"r1=1/0;", "r1=r2+len@9;", "r1=at@12[0];", "r1=code none;", "x0=shelf 9;", "x0=item@9[0];", "x0=item@12[0];", "x0=parcel x1;",
            "x0=letter shelf 9;", "make@12 bytes 1;", "make@0 bytes 1/0;", "make@0 bytes -1;", "make@(1/0)bytes 1;", "drop@12;", "drop@-1;", "drop@(1/0);",
            "same@12@1;", "same@0@12;", "same@0@(1/0);", "same@(1/0)@1;", "same@1@12;", "same@1@(1/0);", "put@12[0]9;", "put@0[1/0]9;", "put@0[0]1/0;", "put@0[3]9;", "put@1[0]9;",
            "put@(1/0)[0]9;", "lay@12[0]none;", "lay@1[1/0]none;", "lay@1[0]shelf 9;", "lay@1[2]none;", "lay@0[0]none;", "lay@2[0]shelf 2;",
            "lay@(1/0)[0]none;", "slide@12 0,@0 1,1;", "slide@0 1/0,@0 1,1;", "slide@0 0,@12 1,1;", "slide@0 0,@0 1/0,1;", "slide@0 0,@0 1,1/0;",
            "slide@0 0,@1 0,1;", "slide@0 0,@0 1,3;", "slide@1 0,@2 0,1;", "bag shelf 9,1;", "bag shelf 0,1/0;", "bag shelf 0,3;", "bag shelf 0,0;",
            "bag none,1;", "if 1/0{r1=0;}else{r2=0;}", "while 1/0{r1=0;}", "refuse 1/0;", "refuse 5;"};
        for (String statement : all) {
            Room room = runs(before + "try{" + statement + "r3=9;}on 0{r9=0;}r4=6;", 0);
            numbers(room, 0, 7, 8, 0, 6, 0, 0, 0, 0, 0);
            holds(room, 0, 4, 5, 0);
            holds(room, 1, 2, -1);
            holds(room, 2, 0, -1);
            Due.is("no other TRAY", room.tray(3, 0), 0);
            Due.is("x0 behind " + statement, room.held(0), 1);
            Due.is("the SHELF behind " + statement, room.shelf(0, 3), 3);
            Due.is("a BAG behind " + statement, room.bag(1, 0), -1);
        }
    }

    private static void len() {
        Due.holds(TERMS, "len: nothing there: 1.");
        numbers(runs("make@1 bytes 0;make@2 items 7;make@3 longs 1990;r0=len@1;r4=len@2;r5=len@3;", 0), 0, 0, 0, 0, 7, 1990);
        refused("r0=len@0;", 1);
        refused("make@0 ints 1;drop@0;r0=len@0;", 1);
    }

    private static void sort() {
        Due.holds(TERMS, "sort: none; it is the ROW's number, 0 for nothing.");
        for (int i = 0; i < ROWS.length; i++) {
            numbers(runs("make@1 " + ROWS[i] + " 0;r0=sort@1;r1=sort@0;", 0), i + 1, 0);
        }
        numbers(runs("make@1 ints 1;drop@1;r0=sort@1;", 0), 0);
    }

    private static void at() {
        Due.holds(TERMS, "at, put: nothing there: 1; a row of ITEMS: 2; no such place, from 0 on: 3.");
        numbers(runs("make@0 ints 2;put@0[0]5;put@0[1]6;r0=at@0[0];r1=at@0[1];", 0), 5, 6);
        refused("r0=at@0[0];", 1);
        refused("r0=at@0[-1];", 1);
        String[] rows = {"items", "letters", "parcels", "registers"};
        for (String row : rows) {
            refused("make@0 " + row + " 2;r0=at@0[0];", 2);
            refused("make@0 " + row + " 2;r0=at@0[2];", 2);
        }
        refused("make@0 ints 2;r0=at@0[2];", 3);
        refused("make@0 ints 2;r0=at@0[-1];", 3);
        refused("make@0 ints 0;r0=at@0[0];", 3);
        refused(GREAT + "make@0 ints 2;r0=at@0[r1];", 3);
        refused(GREAT + "make@0 ints 2;r0=at@0[r1+1];", 3);
        refused(GREAT + "make@0 ints 2;r0=at@0[r2];", 3);
        refused(GREAT + "make@0 ints 2;r0=at@0[r3];", 3);
        refused("make@1 ints 2;make@0 ints 2;make@2 ints 2;r0=at@0[2];", 3);
    }

    private static void put() {
        Due.holds(TERMS, "at, put: nothing there: 1;");
        refused("put@0[0]5;", 1);
        refused("put@0[-1]5;", 1);
        refused("make@0 items 2;put@0[0]0;", 2);
        refused("make@0 registers 2;put@0[2]0;", 2);
        refused("make@0 ints 2;put@0[2]5;", 3);
        refused("make@0 ints 2;put@0[-1]5;", 3);
        refused(GREAT + "make@0 ints 2;put@0[r1]5;", 3);
        refused(GREAT + "make@0 ints 2;put@0[r2]5;", 3);
        Room room = runs("make@1 ints 2;make@0 ints 2;make@2 ints 2;put@0[0]1;put@0[1]2;try{put@0[2]3;}on 3{}try{put@0[-1]4;}on 3{}", 0);
        holds(room, 0, 1, 2);
        holds(room, 1, 0, 0);
        holds(room, 2, 0, 0);
    }

    private static void item() {
        Due.holds(TERMS, "item, lay: nothing there: 1; a row of numbers: 2; no such place: 3;");
        Room room = runs("make@0 items 2;lay@0[1]shelf 2;x0=item@0[0];x1=item@0[1];", 0);
        Due.is("x0", room.held(0), -1);
        Due.is("x1", room.held(1), 2);
        refused("x0=item@0[0];", 1);
        refused("x0=item@0[-1];", 1);
        for (int i = 0; i < 8; i++) {
            refused("make@0 " + ROWS[i] + " 2;x0=item@0[0];", 2);
            refused("make@0 " + ROWS[i] + " 2;x0=item@0[2];", 2);
            refused("make@0 " + ROWS[i] + " 2;lay@0[0]none;", 2);
        }
        refused("make@0 letters 2;x0=item@0[2];", 3);
        refused("make@0 letters 2;x0=item@0[-1];", 3);
        refused(GREAT + "make@0 items 2;x0=item@0[r1];", 3);
        refused(GREAT + "make@0 items 2;x0=item@0[r2];", 3);
        refused("make@0 items 0;x0=item@0[0];", 3);
    }

    private static void lay() {
        Due.holds(TERMS, "lay: the ITEM has not the row's SORT: 5.");
        refused("make@0 letters 1;lay@0[0]shelf 2;", 5);
        refused("make@0 parcels 1;lay@0[0]shelf 1;", 5);
        refused("make@0 parcels 1;lay@0[0]shelf 0;", 5);
        refused("make@0 registers 1;lay@0[0]shelf 0;", 5);
        refused("make@0 registers 1;lay@0[0]shelf 2;", 5);
        refused("make@0 registers 1;lay@0[1]shelf 0;", 3);
        refused("make@0 registers 1;lay@0[-1]shelf 0;", 3);
        refused(GREAT + "make@0 registers 1;lay@0[r1]shelf 0;", 3);
        refused("make@0 ints 1;lay@0[1]shelf 0;", 2);
        refused("lay@0[1]shelf 0;", 1);
        Room room = runs("make@0 parcels 2;lay@0[1]shelf 2;try{lay@0[1]shelf 0;}on 5{}", 0);
        holds(room, 0, -1, 2);
    }

    private static void ofSort() {
        Due.holds(TERMS, "letter, parcel, register: an ITEM that has not that SORT: 2; else it, or none.");
        String[] words = {"letter", "parcel", "register"};
        boolean[][] fits = {{true, true, false, true}, {false, false, true, false}, {false, true, false, false}};
        for (int word = 0; word < 3; word++) {
            for (int item = 0; item < 4; item++) {
                Room room = runs("x0=" + words[word] + " shelf " + item + ";", fits[word][item] ? 0 : 2);
                Due.is("x0", room.held(0), fits[word][item] ? item : -1);
            }
            Due.is("none is of each SORT", runs("x0=shelf 0;x0=" + words[word] + " none;", 0).held(0), -1);
        }
        refused("x0=parcel letter shelf 2;", 2);
        refused("x0=letter shelf 9;", 3);
    }

    private static void ofItems() {
        Due.holds(TERMS, "code (of the office that it goes to), weight, kind (its service), next: none: 1.");
        numbers(runs("r0=code shelf 0;r1=code shelf 1;r2=code shelf 3;r3=weight shelf 0;r4=weight shelf 2;r5=kind shelf 0;r6=kind shelf 1;"
            + "r7=kind shelf 2;", 0), 202, 303, 101, 5, 9, 0, 1, 2);
        String[] words = {"code", "weight", "kind", "next"};
        for (String word : words) {
            refused("r0=" + word + " none;", 1);
            refused("r0=" + word + " x2;", 1);
            refused("make@0 items 1;r0=" + word + " item@0[0];", 1);
        }
    }

    private static void next() {
        Due.holds(TERMS, "next: the coach with which its WAY from here begins, -1 without a WAY, or if it goes to here.");
        Room room = room("r0=next shelf 0;r1=next shelf 1;r2=next shelf 3;");
        Due.is("run at a", room.run(0, 99), 0);
        numbers(room, 1, 2, -1);
        room.tick(1);
        Due.programme(room, "x0=shelf 0;bag x0,1;x1=shelf 2;r0=next x0;r1=next x1;");
        Due.is("run at a", room.run(0, 99), 0);
        numbers(room, 1, -1);
        Room other = room("x0=shelf 0;r0=next x0;");
        Due.is("run at b", other.run(1, 99), 0);
        numbers(other, 0);
        Due.accept(other, 0, 1, 3, "1 t 202");
        Due.is("run at d", other.run(3, 99), 0);
        numbers(other, -1);
    }

    private static void is() {
        Due.holds(TERMS, "is: 0 of none, else 1.");
        numbers(runs("x1=shelf 0;r0=is none;r1=is x0;r2=is x1;r3=is shelf 3;make@0 items 1;r4=is item@0[0];", 0), 0, 0, 1, 1, 0);
    }

    private static void shelf() {
        Due.holds(TERMS, "shelf: the ITEM in that place of the SHELF here: no such place: 3.");
        Room room = runs("x0=shelf 0;x1=shelf 3;x2=shelf(1+1);", 0);
        Due.is("x0", room.held(0), 0);
        Due.is("x1", room.held(1), 3);
        Due.is("x2", room.held(2), 2);
        String[] wrong = {"4", "-1", "999999999", "r1", "r2", "r3", "(r1+1)"};
        for (String k : wrong) {
            refused(GREAT + "x0=shelf " + k + ";", 3);
        }
        Room empty = room("x0=shelf 0;");
        Due.is("an empty SHELF", empty.run(2, 9), 3);
        Due.is("another SHELF", empty.run(1, 9), 0);
        Due.is("x0", empty.held(0), 4);
    }

    private static void manyHereTime() {
        Due.holds(TERMS, "many: how many are there. here: the office; time: the CLOCK.");
        Room room = room("r0=many;r1=here;r2=time;if r0{bag shelf 0,here*0+1-here;r3=many;}");
        room.tick(5);
        Due.is("run at a", room.run(0, 99), 0);
        numbers(room, 4, 0, 5, 3);
        room.tick(3000);
        Due.is("run at b", room.run(1, 99), 0);
        numbers(room, 2, 1, 3005, 1);
        Due.is("run at c", room.run(2, 99), 0);
        numbers(room, 0, 2, 3005, 0);
    }

    private static void makeSize() {
        Due.holds(TERMS, "make: below 0: 4;");
        holds(runs("make@0 ints 0;", 0), 0);
        refused("make@0 ints -1;", 4);
        refused("make@0 registers -999999999;", 4);
        refused(GREAT + "make@0 ints r2;", 4);
        refused(GREAT + "make@0 ints -r1;", 4);
        holds(runs("make@0 ints 2;try{make@0 bytes -1;}on 4{}", 0), 0, 0, 0);
    }

    private static void makeFull() {
        Due.holds(TERMS, "then FULL, if rows of more than 2,000 places would have been made in this run,");
        runs("make@0 longs 2000;", 0);
        runs("make@0 longs 2001;", 11);
        runs("make@0 longs 2000;make@1 bytes 0;", 0);
        runs("make@0 longs 2000;make@1 bytes 1;", 11);
        runs("make@0 longs 1000;drop@0;make@0 longs 1000;", 0);
        runs("make@0 longs 1000;drop@0;make@0 longs 1001;", 11);
        runs(GREAT + "make@0 ints r1;", 11);
        runs(GREAT + "make@0 ints r3;", 11);
        runs("make@0 items 2001;", 11);
        Room room = runs("make@0 truths 2;make@0 longs 1999;", 11);
        Due.is("it holds what it held", room.tray(0, 1), 2);
        Room again = room("make@0 longs 2000;");
        Due.is("a run", again.run(0, 9), 0);
        Due.is("the next one begins anew", again.run(0, 9), 0);
    }

    private static void newRow() {
        Due.holds(TERMS, "the TRAY holds a new row.");
        Room room = runs("make@0 ints 2;put@0[0]5;same@1@0;make@0 ints 2;put@0[1]6;make@2 longs 0;make@3 longs 0;", 0);
        holds(room, 0, 0, 6);
        holds(room, 1, 5, 0);
        Due.is("of its own", room.tray(1, 2), 1);
        Due.is("rows without places are not one", room.tray(3, 2), 3);
    }

    private static void drop() {
        Due.holds(TERMS, "drop: nothing.");
        Room room = runs("drop@5;make@0 ints 2;same@1@0;drop@0;drop@0;r0=sort@0;r1=sort@1;", 0);
        numbers(room, 0, 5);
        Due.is("it holds nothing", room.tray(0, 0), 0);
        Due.is("the other one does", room.tray(1, 1), 2);
    }

    private static void same() {
        Due.holds(TERMS, "same: the first one holds what the second one does.");
        Room room = runs("make@0 ints 2;make@1 items 3;same@0@1;lay@1[2]shelf 0;make@2 ints 1;same@2@9;same@3@3;make@4 bytes 4;same@4@4;", 0);
        holds(room, 0, -1, -1, 0);
        Due.is("of nothing: nothing", room.tray(2, 0), 0);
        Due.is("nothing of its own", room.tray(3, 0), 0);
        Due.is("its own", room.tray(4, 1), 4);
    }

    private static void slideOverlap() {
        Due.holds(TERMS, "slide: so many as the last E tells come from a place on of the first row to the second one, to a place on, "
            + "as if all had been taken first:");
        holds(runs(FIVE + "slide@0 0,@0 1,4;", 0), 0, 1, 1, 2, 3, 4);
        holds(runs(FIVE + "slide@0 1,@0 0,4;", 0), 0, 2, 3, 4, 5, 5);
        holds(runs(FIVE + "same@1@0;slide@1 0,@0 2,3;", 0), 0, 1, 2, 1, 2, 3);
        holds(runs(FIVE + "slide@0 0,@0 0,5;", 0), 0, 1, 2, 3, 4, 5);
        holds(runs(FIVE + "make@1 ints 4;slide@0 3,@1 1,2;", 0), 1, 0, 4, 5, 0);
        holds(runs(FIVE + "make@1 ints 4;slide@0 0,@1 0,1;slide@0 4,@1 3,1;", 0), 1, 1, 0, 0, 5);
        holds(runs("make@0 items 4;lay@0[0]shelf 0;lay@0[1]shelf 1;lay@0[2]shelf 2;slide@0 0,@0 1,3;", 0), 0, 0, 0, 1, 2);
        holds(runs("make@0 letters 4;lay@0[0]shelf 0;lay@0[1]shelf 1;lay@0[2]shelf 3;slide@0 0,@0 1,3;", 0), 0, 0, 0, 1, 3);
    }

    private static void slideNothing() {
        Due.holds(TERMS, "one TRAY holds nothing: 1;");
        refused("slide@0 0,@1 0,0;", 1);
        refused(FIVE + "slide@0 0,@1 0,0;", 1);
        refused(FIVE + "slide@1 0,@0 0,0;", 1);
        refused(FIVE + "slide@1 -1,@0 9,9;", 1);
        refused("make@0 items 1;slide@0 0,@1 -1,0;", 1);
    }

    private static void slideKinds() {
        Due.holds(TERMS, "not both rows of ITEMS, nor of numbers of one ROW: 2;");
        for (int a = 0; a < ROWS.length; a++) {
            for (int b = 0; b < ROWS.length; b++) {
                boolean fits = a == b || a > 7 && b > 7;
                runs("make@0 " + ROWS[a] + " 1;make@1 " + ROWS[b] + " 1;slide@0 0,@1 0,1;", fits ? 0 : 2);
            }
        }
        refused(FIVE + "make@1 longs 5;slide@0 -1,@1 0,9;", 2);
        refused(FIVE + "make@1 items 5;slide@0 -1,@1 0,9;", 2);
    }

    private static void slidePlaces() {
        Due.holds(TERMS, "one of the three numbers is below 0, or more than a row has would be needed: 3;");
        holds(runs(FIVE + "slide@0 5,@0 5,0;slide@0 0,@0 5,0;slide@0 5,@0 0,0;", 0), 0, 1, 2, 3, 4, 5);
        String[] wrong = {"@0 -1,@0 0,0", "@0 0,@0 -1,0", "@0 0,@0 0,-1", "@0 0,@0 0,6", "@0 1,@0 0,5", "@0 0,@0 1,5", "@0 6,@0 0,0", "@0 0,@0 6,0",
            "@0 5,@0 0,1", "@0 0,@0 5,1", "@0 r1,@0 0,0", "@0 0,@0 r1,0", "@0 0,@0 0,r1", "@0 r3,@0 0,1", "@0 0,@0 r3,1", "@0 1,@0 1,r3", "@0 r2,@0 0,0",
            "@0 0,@0 r2,0", "@0 0,@0 0,r2", "@0 r3,@0 r3,r3", "@0 r2,@0 r2,r2", "@0 5,@0 5,r2"};
        for (String places : wrong) {
            refused(FIVE + GREAT + "slide" + places + ";", 3);
        }
        holds(runs(FIVE + "make@1 ints 3;try{slide@0 0,@1 0,4;}on 3{}", 0), 1, 0, 0, 0);
        refused("make@0 ints 0;slide@0 0,@0 0,1;", 3);
        refused("make@0 items 3;make@1 parcels 3;lay@0[0]shelf 0;slide@0 0,@1 1,3;", 3);
    }

    private static void slideSorts() {
        Due.holds(TERMS, "else one by one, at the first ITEM that has not the second row's SORT: 5 (those ahead have come).");
        String items = "make@0 items 4;lay@0[0]shelf 0;lay@0[1]shelf 1;lay@0[2]shelf 2;lay@0[3]shelf 3;";
        holds(runs(items + "make@1 letters 5;lay@1[4]shelf 3;slide@0 0,@1 1,4;", 5), 1, -1, 0, 1, -1, 3);
        holds(runs(items + "make@1 parcels 4;lay@1[0]shelf 2;slide@0 0,@1 0,4;", 5), 1, 2, -1, -1, -1);
        holds(runs(items + "make@1 registers 4;slide@0 1,@1 0,1;slide@0 1,@1 1,2;", 5), 1, 1, 1, -1, -1);
        holds(runs(items + "make@1 letters 4;slide@0 0,@1 0,2;slide@0 3,@1 3,1;", 0), 1, 0, 1, -1, 3);
        holds(runs(items + "make@1 parcels 4;slide@0 2,@1 1,1;slide@0 0,@1 0,0;", 0), 1, -1, 2, -1, -1);
        holds(runs("make@0 items 3;lay@0[2]shelf 2;make@1 parcels 3;lay@1[0]shelf 2;slide@0 0,@1 0,3;", 0), 1, -1, -1, 2);
        holds(runs("make@0 letters 2;make@1 registers 2;lay@0[0]shelf 1;lay@0[1]shelf 0;slide@0 0,@1 0,2;", 5), 1, 1, -1);
        refused(items + "make@1 letters 4;slide@0 0,@1 0,4;", 5);
        holds(runs(items + "make@1 letters 4;slide@0 0,@1 0,1;", 0), 1, 0, -1, -1, -1);
        holds(runs(items + "make@1 letters 4;lay@1[1]shelf 3;slide@0 0,@1 0,1;", 0), 1, 0, 3, -1, -1);
    }

    private static void bag() {
        Due.holds(TERMS, "bag: none: 1; no such coach: 3; the ITEM is not on the SHELF here: 7; the coach does not go from here: 8; "
            + "else it comes into its BAG.");
        refused("bag none,9;", 1);
        refused("bag x0,1;", 1);
        refused("bag shelf 0,3;", 3);
        refused("bag shelf 0,-1;", 3);
        refused(GREAT + "bag shelf 0,r1+1;", 3);
        refused(GREAT + "bag shelf 0,r2;", 3);
        refused("x0=shelf 0;bag x0,1;bag x0,3;", 3);
        refused("x0=shelf 0;bag x0,1;bag x0,1;", 7);
        refused("x0=shelf 0;bag x0,1;bag x0,0;", 7);
        refused("bag shelf 0,0;", 8);
        Room room = runs("x0=shelf 2;bag x0,2;bag shelf(3-1),1;bag shelf 0,1;r0=many;", 0);
        numbers(room, 1);
        Due.is("any coach from here", room.bag(2, 0), 2);
        Due.is("even if it goes to here", room.bag(1, 0), 3);
        Due.is("behind those that are there", room.bag(1, 1), 0);
        Due.is("one is left", room.shelf(0, 0), 1);
        Due.is("where it is", room.item(0, 5), 1);
        Due.is("its coach", room.item(0, 7), 1);
        Due.is("its office", room.item(0, 6), 0);
        room.tick(14);
        Due.is("the coach goes", room.item(0, 10), 14);
        Due.is("with it", room.item(0, 5), 0);
    }

    private static void refuse() {
        Due.holds(TERMS, "refuse: 9.");
        runs("refuse 0;", 9);
        runs("refuse 3;", 9);
        numbers(runs(GREAT + "try{refuse r2;}on 9{r0=r9;}", 0), Long.MIN_VALUE);
        numbers(runs("try{refuse 3;}on 3{r0=1;}on 0{r1=r9;}", 0), 0, 3);
    }

    private static void trayTold() {
        Due.holds("Promise 21: tray", "Of TRAY t, what 0: its ROW's number, 0 if it holds nothing; 1: how many places; "
            + "2: the least TRAY that holds the same row. NONE for nothing (but what 0), another what.");
        Room first = runs("make@0 longs 2;same@1@0;make@2 longs 2;same@11@2;same@2@0;", 0);
        int[] least = {0, 0, 0, -1, -1, -1, -1, -1, -1, -1, -1, 11};
        for (int t = 0; t < 12; t++) {
            Due.is("the least TRAY of " + t, first.tray(t, 2), least[t]);
        }
        Room room = runs("make@3 shorts 4;same@9@3;same@11@9;make@0 items 0;", 0);
        int[][] due = {{9, 0, 0}, {0, -1, -1}, {0, -1, -1}, {4, 4, 3}, {0, -1, -1}, {0, -1, -1}, {0, -1, -1}, {0, -1, -1}, {0, -1, -1}, {4, 4, 3},
            {0, -1, -1}, {4, 4, 3}};
        int[] others = {-1, 3, MIN, MAX};
        for (int t = 0; t < 12; t++) {
            for (int what = 0; what < 3; what++) {
                Due.is("tray(" + t + ", " + what + ")", room.tray(t, what), due[t][what]);
            }
            for (int what : others) {
                Due.is("tray(" + t + ", " + what + ")", room.tray(t, what), -1);
            }
        }
    }

    private static void trayThrows() {
        Due.holds("Promise 21: tray", "IndexOutOfBoundsException: no such TRAY.");
        Room room = runs("make@11 ints 1;", 0);
        int[] wrong = {-1, 12, 13, MIN, MAX};
        for (int t : wrong) {
            Due.fires("tray(" + t + ", 0)", () -> room.tray(t, 0), Due.OUT_OF_BOUNDS);
            Due.fires("tray(" + t + ", 9)", () -> room.tray(t, 9), Due.OUT_OF_BOUNDS);
        }
        Due.is("the last one", room.tray(11, 0), 5);
    }

    private static void place() {
        Due.holds("Promise 22: place", "What a place of a TRAY's row holds, as at told it (of rows of ITEMS the ITEM, NONE for none).");
        Room room = runs(GREAT + "make@0 doubles 2;put@0[1]r3;make@1 items 2;lay@1[1]shelf 2;make@2 truths 1;put@2[0]5;make@3 signs 1;put@3[0]-1;", 0);
        holds(room, 0, 0, Long.MAX_VALUE);
        holds(room, 1, -1, 2);
        holds(room, 2, 1);
        holds(room, 3, 65535);
    }

    private static void placeThrows() {
        Due.holds("Promise 22: place", "NoSuchElementException: no such TRAY, nothing there, no such place.");
        Room room = runs("make@0 ints 3;make@11 items 1;make@1 longs 0;make@2 bytes 2;drop@2;", 0);
        int[][] wrong = {{-1, 0}, {12, 0}, {2, 0}, {3, 0}, {0, -1}, {0, 3}, {1, 0}, {11, 1}, {MIN, 0}, {MAX, 0}, {0, MIN}, {0, MAX}, {12, 9}};
        for (int[] w : wrong) {
            Due.fires("place(" + w[0] + ", " + w[1] + ")", () -> room.place(w[0], w[1]), Due.NO_ELEMENT);
        }
        Due.is("the last one", room.place(0, 2), 0);
        Due.is("the last TRAY", room.place(11, 0), -1);
        Due.is("a book", Due.book(room, "office a 1 0 0;"), 0);
        Due.fires("behind a book", () -> room.place(0, 0), Due.NO_ELEMENT);
    }
}
