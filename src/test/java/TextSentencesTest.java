/** Terms 1 (TEXTS) and promises 1 to 3, each sentence that names an edge by itself. */
public final class TextSentencesTest {
    private static final String TWO = "office a 1 0 0;office b 2 0 0;";
    private static final String SERVICE = "service x letter most 1 ";
    private static final String[] BOOK_WORDS = {"office", "short", "street", "in", "odd", "even", "from", "to", "at", "e", "n", "w", "s", "walk",
        "service", "letter", "parcel", "register", "most", "base", "each", "over", "zone", "far", "up", "least", "cut", "coach", "first", "every",
        "last", "takes", "holds"};

    public static void main(String[] args) {
        newObject();
        feedOrder();
        feedOthers();
        feedBeyond();
        feedTold();
        taken();
        longestTokens();
        blanks();
        names();
        numbers();
        others();
        emptyBook();
        needs();
        officeNumbers();
        streetNames();
        streetNumbers();
        goes();
        walks();
        sorts();
        most();
        times();
        every();
        takes();
        holds();
        officeTold();
        ruleNumbers();
        words();
        Due.end("TextSentencesTest");
    }

    private static void good(String text) {
        Room room = new Room();
        Due.is("book " + text, Due.book(room, text), 0);
    }

    private static void fault(int kind, String marked) {
        Due.bookFault(kind, marked);
    }

    /** A NUMBER at its edges: the least and the most are good, what is just beyond is a FAULT of kind 4. */
    private static void range(String before, int least, int most, String behind) {
        good(before + least + behind);
        good(before + most + behind);
        good(before + "00000" + least + behind);
        if (least > 0) {
            fault(4, before + "|" + (least - 1) + behind);
        }
        fault(4, before + "|" + (most + 1) + behind);
        fault(4, before + "|999999999" + behind);
        fault(1, before + "|-" + most + behind);
        fault(1, before + "|x" + behind);
    }

    private static void newObject() {
        Due.holds("Promise 1: A new object", "No offices, nothing told, an empty TAPE.");
        Room room = new Room();
        for (int what = 0; what <= 17; what++) {
            Due.is("count(" + what + ")", room.count(what), what == 12 ? 7 : 0);
        }
        Due.is("found(0)", room.found(0), -1);
        Due.is("found(1)", room.found(1), -1);
        Due.is("mended()", room.mended(), -1);
        Due.is("find()", room.find(), -1);
        Due.is("read()", room.read(), -3);
        Due.is("sort(0)", room.sort(0), -1);
        Due.is("deliver(0, 0)", room.deliver(0, 0), -2);
        Due.is("run(0, 1)", room.run(0, 1), -1);
        Due.is("shelf(0, 0)", room.shelf(0, 0), -1);
        Due.is("bag(0, 0)", room.bag(0, 0), -1);
        Due.is("moved(0, 27)", room.moved(0, 27), false);
        Due.is("gone(0, 27)", room.gone(0, 27), false);
        Due.fires("price", () -> room.price(0, 1, 0, 0), Due.ILLEGAL_ARGUMENT);
        Due.fires("way", () -> room.way(0, 0), Due.ILLEGAL_ARGUMENT);
        Due.fires("accept", () -> room.accept(0, 1, 0), Due.ILLEGAL_ARGUMENT);
        Due.fires("bar", () -> room.bar(0, 0), Due.NO_ELEMENT);
        Due.fires("item", () -> room.item(0, 0), Due.NO_ELEMENT);
        for (int i = 0; i < 12; i++) {
            int t = i;
            Due.is("number", i < 10 ? room.number(i) : 0, 0);
            Due.is("held", i < 4 ? room.held(i) : -1, -1);
            Due.is("tray", room.tray(i, 0), 0);
            Due.is("tray", room.tray(i, 1), -1);
            Due.is("tray", room.tray(i, 2), -1);
            Due.fires("place", () -> room.place(t, 0), Due.NO_ELEMENT);
        }
        Due.is("tick(5)", room.tick(5), 5);
        Due.is("a programme", Due.programme(room, "stop;"), 0);
        Due.is("no office to run it at", room.run(0, 1), -1);
        Due.is("an empty book", room.book(), 0);
    }

    private static void feedOrder() {
        Due.holds("Promise 2: feed", "Up to 24 signs come behind the TAPE: the bytes of a, of b, of c, each from the highest on;");
        Room room = new Room();
        Due.is("office a 1 2 3; office b", room.feed(0x6F66666963652061L, 0x203120322033203BL, 0x6F66666963652062L), 24);
        Due.is("45 6 7;short a x;short b", room.feed(0x203420352036203BL, 0x73686F7274206120L, 0x783B73686F727420L), 48);
        Due.is("c dd;", room.feed(0x63206464203B0000L, 0, 0), 54);
        Due.is("they are a book", room.book(), 0);
        Due.is("of two offices", room.count(0), 2);
        Due.is("CODE, X and Y of the second", Due.book(room, "office a 1 2 3;office b 1 0 0;"), 3 + 16 * 24);
        for (int i = 0; i < 24; i++) {
            long byteAt = 0x3BL << 56 - i % 8 * 8;
            Due.is("byte " + i, room.feed(i < 8 ? byteAt : 0, i / 8 == 1 ? byteAt : 0, i > 15 ? byteAt : 0), i + 1);
        }
    }

    private static void feedOthers() {
        Due.holds("Promise 2: feed", "others than 10 and 32 to 126, and what is beyond 4,000, are left out");
        Room room = new Room();
        int told = 0;
        for (int sign = 0; sign < 256; sign++) {
            told += sign == 10 || sign >= 32 && sign <= 126 ? 1 : 0;
            Due.is("sign " + sign, room.feed((long) sign << 56, 0, 0), told);
        }
        Due.is("96 of them", told, 96);
        Due.is("none of 24", room.feed(-1L, 0x8081FEFF7F1F0B09L, 0x0001020304050607L), 96);
        Due.is("one among others", room.feed(0x00FF0041FF00FF7FL, 0, 0), 97);
    }

    private static void feedBeyond() {
        Due.holds("Terms 1, TEXTS", "The TAPE has at most 4,000 signs, 10 and 32 to 126;");
        Room room = new Room();
        for (int i = 1; i <= 166; i++) {
            Due.is("feed " + i, room.feed(0x2020202020202020L, 0x2020202020202020L, 0x2020202020202020L), 24 * i);
        }
        Due.is("15 more", Due.feed(room, "office a 1 2 3;"), 3999);
        Due.is("the first of eight comes", room.feed(0x2C3B3B3B3B3B3B3BL, 0, 0), 4000);
        Due.is("it is full", room.feed(0x3B3B3B3B3B3B3B3BL, 0x3B3B3B3B3B3B3B3BL, 0x3B3B3B3B3B3B3B3BL), 4000);
        Due.is("full, nothing comes", room.feed(0, 0, 0), 4000);
        Due.is("count", room.count(16), 4000);
        Due.is("that sign is wrong", room.book(), 1 + 16 * 3999);
        Due.is("it is empty again", room.feed(0x2C00000000000000L, 0, 0), 1);
        Room full = new Room();
        for (int i = 0; i < 167; i++) {
            full.feed(0x2020202020202020L, 0x2020202020202020L, 0x2020202020202020L);
        }
        Due.is("4,000 blanks", full.book(), 0);
    }

    private static void feedTold() {
        Due.holds("Promise 2: feed", "how many there are.");
        Room room = new Room();
        Due.is("none", room.feed(0, 0, 0), 0);
        Due.is("five", Due.feed(room, "seven"), 5);
        Due.is("those and three", Due.feed(room, "two"), 8);
        Due.is("nothing more", room.feed(0, 0, 0), 8);
        Due.is("count(16) likewise", room.count(16), 8);
    }

    private static void isTaken(Room room, String what) {
        Due.is("the TAPE behind " + what, room.count(16), 0);
    }

    private static void taken() {
        Due.holds("Terms 1, TEXTS", "what reads it takes it: it is empty then, whatever comes of it.");
        Room room = Due.roomOf(World.BOOK);
        isTaken(room, "a book");
        Due.is("a FAULT", Due.book(room, "office"), 1 + 16 * 6);
        isTaken(room, "a FAULT");
        Due.is("find", Due.find(room, "1 mill st 101"), 0);
        isTaken(room, "find");
        Due.is("find nothing", Due.find(room, "nothing"), -1);
        isTaken(room, "find of nothing");
        Due.is("find too long a text", Due.find(room, "1 mill street 101" + " ".repeat(80)), -1);
        isTaken(room, "find of too long a text");
        Due.is("accept", Due.accept(room, 0, 5, 0, "1 mill st 101"), 0);
        isTaken(room, "accept");
        Due.is("accept, too heavy", Due.accept(room, 0, 101, 0, "1 mill st 101"), -3);
        isTaken(room, "accept of too heavy a thing");
        Due.is("accept, nothing found", Due.accept(room, 0, 5, 0, "1"), -1);
        isTaken(room, "accept of nothing");
        Due.feed(room, "1 mill st 101");
        Due.fires("accept", () -> room.accept(9, 5, 0), Due.ILLEGAL_ARGUMENT);
        isTaken(room, "accept that throws");
        Due.is("read of other signs", Due.read(room, "0123"), -3);
        isTaken(room, "read of other signs");
        Due.is("read", Due.read(room, "0".repeat(33)), -2);
        isTaken(room, "read");
        Due.is("read nothing", Due.read(room, "?".repeat(33)), -1);
        isTaken(room, "read of nothing");
        Due.is("moved", Due.moved(room, 0, 27, "2 mill st 101"), true);
        isTaken(room, "moved");
        Due.is("moved, no piece", Due.moved(room, 9, 27, "2 mill st 101"), false);
        isTaken(room, "moved of no piece");
        Due.is("moved, no door", Due.moved(room, 0, 26, "2 mill st 101"), false);
        isTaken(room, "moved of no door");
        Due.is("programme", Due.programme(room, "stop;"), 0);
        isTaken(room, "a programme");
        Due.is("programme's fault", Due.programme(room, "stop"), 1 + 16 * 4);
        isTaken(room, "a programme's FAULT");
    }

    private static void longestTokens() {
        Due.holds("Terms 1, TEXTS", "TOKENS of books and programmes, each as long as can be,");
        fault(1, "|officea 1 0 0;");
        fault(1, "office a 1 2 3;|office1 b 2 0 0;");
        fault(1, "office a |12345678901 0;");
        good("office a 12 34 5;office a1 34 5 6;");
        Due.programmeFault(1, "|r12=1;");
        Due.programmeFault(1, "|stopstop;");
        Due.programmeFault(1, "r0=|len12;");
        Due.is("x1 is one, 1 2 are two", Due.programme(new Room(), "x1=none;r0=12;"), 0);
        Due.programmeFault(1, "|r 0=1;");
        Due.programmeFault(1, "r0=1 |2;");
    }

    private static void blanks() {
        Due.holds("Terms 1, TEXTS", "blanks (32, 10) between them where one likes:");
        good("\n\n  office\na\n \n1 2\n3\n;\n ");
        good("office a 1 2 3;office b 4 5 6;street x in a from 1to 2at 3 4e walk 5;");
        fault(1, "|off ice a 1 2 3;");
        fault(4, "office a |1000 2 3;");
        fault(1, "office a 1 000 2 |3;");
        Due.is("a programme without any", Due.programme(new Room(), "if 1{r0=1+2*-3;}else{stop;}"), 0);
        Due.is("and with many", Due.programme(new Room(), " if\n1 { r0 = 1 + 2 * - 3 ; }\nelse { stop ; }\n"), 0);
    }

    private static void names() {
        Due.holds("Terms 1, TEXTS", "NAMES (a letter a to z, then letters and digits, 12 at most),");
        good("office a 1 0 0;office z 2 0 0;office a0 3 0 0;office z9z9 4 0 0;office abcdefghijkl 5 0 0;office a12345678901 6 0 0;");
        good("office abcdefghijkl 1 0 0;office abcdefghijkm 2 0 0;office bbcdefghijkl 3 0 0;office zzzzzzzzzzzz 4 0 0;office z99999999999 5 0 0;"
            + "office z99999999998 6 0 0;");
        fault(3, "office abcdefghijkl 1 0 0;office |abcdefghijkl 2 0 0;");
        fault(1, "office |abcdefghijklm 1 0 0;");
        fault(1, "office |a123456789012 1 0 0;");
        fault(1, "office |1a 1 0 0;");
        fault(1, "office |A 1 0 0;");
        fault(1, "office a|B 1 0 0;");
        fault(1, "office a|_b 1 0 0;");
        fault(1, "office |` 1 0 0;");
        fault(1, "office |{ 1 0 0;");
    }

    private static void numbers() {
        Due.holds("Terms 1, TEXTS", "NUMBERS (1 to 9 digits; a letter may stand right behind),");
        good("office a 000000001 0 000000999;");
        good("office a 1 2 3;street x in a from 1to 2at 3 4e walk 5;");
        fault(4, "office a |999999999 0 0;");
        fault(1, "office a |0000000001 0 0;");
        fault(1, "office a |1000000000 0 0;");
        fault(1, "office a 1 2 3|e;");
        Due.is("nine digits", Due.programme(new Room(), "r0=999999999;"), 0);
        Due.programmeFault(1, "r0=|1234567890;");
        Due.programmeFault(1, "r0=123456789|e;");
    }

    private static void others() {
        Due.holds("Terms 1, TEXTS", "signs ; , = < + - * / % ( ) { } [ ] @ . All else (also a longer NAME or NUMBER, at its first sign) is none.");
        String all = "make@0 ints(1<2)+3-1*4/2%3;r0=at@0[0]=1;slide@0 0,@0 0,0;if 1{}";
        Room room = Due.roomOf("office a 1 0 0;");
        Due.is("all of them", Due.programme(room, all), 0);
        Due.is("they run", room.run(0, 9), 0);
        for (char sign = 33; sign < 127; sign++) {
            if (";,=<+-*/%(){}[]@".indexOf(sign) >= 0) {
                Due.programmeFault(1, "r0=1;|" + sign + sign + sign);
            } else if (sign < '0' || sign > '9' && sign < 'a' || sign > 'z') {
                Due.programmeFault(1, "r0=1|" + sign + ";");
                fault(1, "office a 1 2 3 |" + sign + ";");
            }
        }
        fault(1, "office |abcdefghijklmnopqrstuvwxyz 1 2 3;");
        fault(1, "|abcdefghijklmnop 1 2 3;");
        Due.programmeFault(1, "|abcdefghijklmnop=1;");
        Due.programmeFault(1, "r0=12+|12345678901;");
    }

    private static void emptyBook() {
        Due.holds("Terms 1, TEXTS", "BOOK: statements (none, too), each behind what it needs:");
        good("");
        good(" ");
        good("\n");
        Room room = Due.roomOf(World.BOOK);
        Due.is("an empty one", room.book(), 0);
        for (int what = 0; what < 4; what++) {
            Due.is("count(" + what + ")", room.count(what), 0);
        }
        fault(1, "|;");
        fault(1, "office a 1 2 3;|;");
    }

    private static void needs() {
        Due.holds("Terms 1, TEXTS", "each behind what it needs: office NAME CODE X Y ; short NAME NAME ; "
            + "street NAME .. in OFFICE [ odd | even ] from A to B at X Y GOES walk W ; service NAME SORT most G RULE .. ; "
            + "coach OFFICE OFFICE first M every N last L takes T holds K ;");
        fault(2, "street s in |a from 1 to 9 at 0 0 e walk 0;office a 1 0 0;");
        fault(2, "office a 1 0 0;coach a |b first 0 every 1 last 0 takes 1 holds 1;office b 2 0 0;");
        fault(2, "office b 1 0 0;coach |a b first 0 every 1 last 0 takes 1 holds 1;office a 2 0 0;");
        good("service x letter most 1;short a b;" + TWO + "coach a b first 0 every 1 last 0 takes 1 holds 1;office c 3 0 0;"
            + "street s in c from 1 to 9 at 0 0 e walk 0;short c d;service y letter most 1;");
        String[] all = {"office a 1 2 3 ;", "short a b ;", "street s t in a odd from 1 to 2 at 3 4 e walk 5 ;", "service a letter most 1 base 1 ;",
            "coach a b first 0 every 1 last 2 takes 3 holds 4 ;"};
        for (int i = 0; i < all.length; i++) {
            cutOff(i == 0 ? "" : TWO, all[i]);
        }
    }

    /** Without its last TOKENS a statement's end can't come: the FAULT is at the text's length. */
    private static void cutOff(String before, String statement) {
        good(before + statement);
        for (int at = statement.lastIndexOf(' '); at > 0; at = statement.lastIndexOf(' ', at - 1)) {
            fault(1, before + statement.substring(0, at) + "|");
            fault(1, before + statement.substring(0, at) + " \n |");
        }
    }

    private static void officeNumbers() {
        Due.holds("Terms 1, TEXTS", "CODE 1 .. 999, X and Y 0 .. 999;");
        range("office a ", 1, 999, " 5 5;");
        range("office a 5 ", 0, 999, " 5;");
        range("office a 5 5 ", 0, 999, ";");
        range("office a 5 0 0;street s in a from 1 to 9 at ", 0, 999, " 5 e walk 0;");
        range("office a 5 0 0;street s in a from 1 to 9 at 5 ", 0, 999, " e walk 0;");
    }

    private static void streetNames() {
        Due.holds("Terms 1, TEXTS", "one to three NAMES (in is none of these);");
        String rest = " a from 1 to 9 at 0 0 e walk 0;";
        good(TWO + "street s in" + rest);
        good(TWO + "street s t in" + rest);
        good(TWO + "street s t u in" + rest);
        fault(1, TWO + "street s t u |v in" + rest);
        fault(1, TWO + "street |in" + rest);
        fault(1, TWO + "street |in in" + rest);
        fault(2, TWO + "street s in |in" + rest);
        good("office in 1 0 0;street s in in from 1 to 9 at 0 0 e walk 0;");
        fault(1, TWO + "street s t u |5 in" + rest);
        fault(1, TWO + "street s |; in" + rest);
    }

    private static void streetNumbers() {
        Due.holds("Terms 1, TEXTS", "A, B 1 .. 999, B not below A;");
        range(TWO + "street s in a from ", 1, 999, " to 999 at 0 0 e walk 0;");
        range(TWO + "street s in a from 1 to ", 1, 999, " at 0 0 e walk 0;");
        range(TWO + "street s in a odd from 7 to ", 7, 999, " at 0 0 e walk 0;");
        range(TWO + "street s in a even from 999 to ", 999, 999, " at 0 0 e walk 0;");
        fault(4, TWO + "street s in a from 999 to |998 at 0 0 e walk 0;");
        fault(4, TWO + "street s in a from 2 to |1 at 0 0 e walk 0;");
    }

    private static void goes() {
        Due.holds("Terms 1, TEXTS", "GOES e, n, w or s;");
        for (char sign = 'a'; sign <= 'z'; sign++) {
            if ("enws".indexOf(sign) >= 0) {
                good(TWO + "street s in a from 1 to 9 at 0 0 " + sign + " walk 0;");
            } else {
                fault(1, TWO + "street s in a from 1 to 9 at 0 0 |" + sign + " walk 0;");
            }
        }
        fault(1, TWO + "street s in a from 1 to 9 at 0 0 |ne walk 0;");
        fault(1, TWO + "street s in a from 1 to 9 at 0 0 |walk 0;");
        fault(1, TWO + "street s in a from 1 to 9 at 0 0 |0 walk 0;");
    }

    private static void walks() {
        Due.holds("Terms 1, TEXTS", "W 0 .. 9;");
        range(TWO + "street s in a from 1 to 9 at 0 0 e walk ", 0, 9, ";");
    }

    private static void sorts() {
        Due.holds("Terms 1, TEXTS", "SORT letter, parcel or register;");
        good("service a letter most 1;service b parcel most 1;service c register most 1;");
        fault(1, "service a |letters most 1;");
        fault(1, "service a |most 1;");
        fault(1, "service a |x most 1;");
        fault(1, "service a |1 most 1;");
        fault(1, "service a letter |parcel most 1;");
    }

    private static void most() {
        Due.holds("Terms 1, TEXTS", "G 1 .. 4000;");
        range("service a letter most ", 1, 4000, ";");
        range("service a letter most ", 1, 4000, " base 1;");
    }

    private static void times() {
        Due.holds("Terms 1, TEXTS", "M, L 0 .. 1439, L not below M;");
        range(TWO + "coach a b first ", 0, 1439, " every 1 last 1439 takes 1 holds 1;");
        range(TWO + "coach a b first 0 every 1 last ", 0, 1439, " takes 1 holds 1;");
        range(TWO + "coach a b first 700 every 1 last ", 700, 1439, " takes 1 holds 1;");
        range(TWO + "coach a b first 1439 every 1 last ", 1439, 1439, " takes 1 holds 1;");
        fault(4, TWO + "coach a b first 1 every 1 last |0 takes 1 holds 1;");
    }

    private static void every() {
        Due.holds("Terms 1, TEXTS", "N 1 .. 1440;");
        range(TWO + "coach a b first 0 every ", 1, 1440, " last 5 takes 1 holds 1;");
    }

    private static void takes() {
        Due.holds("Terms 1, TEXTS", "T 1 .. 3000;");
        range(TWO + "coach a b first 0 every 1 last 5 takes ", 1, 3000, " holds 1;");
    }

    private static void holds() {
        Due.holds("Terms 1, TEXTS", "K 1 .. 20.");
        range(TWO + "coach a b first 0 every 1 last 5 takes 1 holds ", 1, 20, ";");
    }

    private static void officeTold() {
        Due.holds("Terms 1, TEXTS", "OFFICE: the NAME of one that is told.");
        String rest = " from 1 to 9 at 0 0 e walk 0;";
        good(TWO + "street s in b" + rest + "street s in a" + rest);
        fault(2, TWO + "street s in |c" + rest);
        fault(2, TWO + "street s in |ab" + rest);
        fault(2, TWO + "short c a;street s in |c" + rest);
        fault(2, TWO + "service c letter most 1;street s in |c" + rest);
        fault(2, TWO + "coach |s a");
        fault(1, TWO + "street s in |1" + rest);
        fault(1, TWO + "street s in |; a" + rest);
    }

    private static void ruleNumbers() {
        Due.holds("Terms 1, TEXTS", "RULE (none, too): base P | each G P over V | zone Z P | far P | up P | least P | cut Q, "
            + "P 0 .. 9999, G 1 .. 4000, V 0 .. 4000, Z 0 .. 9, Q 1 .. 99.");
        good(SERVICE + ";");
        range(SERVICE + "base ", 0, 9999, ";");
        range(SERVICE + "each ", 1, 4000, " 5 over 5;");
        range(SERVICE + "each 5 ", 0, 9999, " over 5;");
        range(SERVICE + "each 5 5 over ", 0, 4000, ";");
        range(SERVICE + "zone ", 0, 9, " 5;");
        range(SERVICE + "zone 5 ", 0, 9999, ";");
        range(SERVICE + "far ", 0, 9999, ";");
        range(SERVICE + "up ", 0, 9999, ";");
        range(SERVICE + "least ", 0, 9999, ";");
        range(SERVICE + "cut ", 1, 99, " base 1;");
        fault(1, SERVICE + "each 5 5 |base 5;");
        fault(1, SERVICE + "each 5 |over 5;");
        fault(1, SERVICE + "zone 5|;");
        fault(1, SERVICE + "base 5 |5;");
        fault(1, SERVICE + "|over 5;");
    }

    private static void words() {
        Due.holds("Terms 1, TEXTS", "(Where another NAME is wanted each word is one.)");
        for (String word : BOOK_WORDS) {
            good("office " + word + " 1 0 0;service " + word + " letter most 1;short " + word + " " + word + ";");
            String street = "street " + word + " " + word + " in a from 1 to 9 at 0 0 e walk 0;";
            if (word.equals("in")) {
                fault(1, TWO + "street |in in in a from 1 to 9 at 0 0 e walk 0;");
            } else {
                good(TWO + street);
                Room room = Due.roomOf(TWO + street);
                Due.is("a street of that name", Due.find(room, "1 " + word + " " + word + " 001"), 0);
                good("office " + word + " 1 0 0;office b 2 0 0;street s in " + word + " from 1 to 9 at 0 0 e walk 0;coach " + word
                    + " b first 0 every 1 last 0 takes 1 holds 1;coach b " + word + " first 0 every 1 last 0 takes 1 holds 1;");
            }
        }
    }
}
