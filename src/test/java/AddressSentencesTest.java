/** Terms 2 (ADDRESSES) and promises 4 and 5, each sentence that names an edge by itself. */
public final class AddressSentencesTest {
    private static final String TERMS = "Terms 2, ADDRESSES";
    /** One street that has every DOOR, of one office with a CODE that has 0s ahead. */
    private static final String ONE = "office oak 7 0 0;street elm in oak from 1 to 999 at 0 0 e walk 0;";

    public static void main(String[] args) {
        eightySigns();
        greatLetters();
        otherSigns();
        words();
        shorts();
        doors();
        streetWords();
        codes();
        officeWords();
        firstCode();
        partings();
        farness();
        neighbours();
        namesWithBlanks();
        officeName();
        digits();
        leastParting();
        fits();
        nearest();
        asNear();
        doorNumbers();
        doorPlaces();
        findTold();
        findNone();
        findSeveral();
        found();
        foundOther();
        Due.end("AddressSentencesTest");
    }

    private static void finds(Room room, String text, int piece, int far) {
        int got = Due.find(room, text);
        Due.is("find " + text, got, piece);
        if (got >= 0) {
            Due.is("how far is " + text, room.found(1), far);
        }
    }

    private static void misses(Room room, String text) {
        finds(room, text, -1, 0);
    }

    private static void eightySigns() {
        Due.holds(TERMS, "2. ADDRESSES, of at most 80 signs.");
        Room room = Due.roomOf(ONE);
        String eighty = "1 elm oak" + " ".repeat(71);
        finds(room, eighty, 0, 0);
        misses(room, eighty + " ");
        finds(room, ".".repeat(71) + "1 elm oak", 0, 0);
        misses(room, "1 elm oak" + "\n".repeat(72));
        misses(room, ".".repeat(72) + "1 elm oak");
        finds(room, "1 elm" + ",".repeat(72) + "oak", 0, 0);
        misses(room, "1 elm oak" + " ".repeat(3991));
    }

    private static void greatLetters() {
        Due.holds(TERMS, "Great letters are small ones;");
        Room room = Due.roomOf("office az 7 0 0;short q zza;street azm za in az from 1 to 999 at 0 0 e walk 0;");
        finds(room, "1 AZM ZA AZ", 0, 0);
        finds(room, "1 aZm Za Az", 0, 0);
        finds(room, "1A azm za az", 0, 0);
        Due.is("the DOOR's letter", room.found(0), 28);
        finds(room, "1Z azm za az", 0, 0);
        Due.is("the DOOR's letter", room.found(0), 53);
        finds(room, "1 azm Q az", 0, 1);
    }

    private static void otherSigns() {
        Due.holds(TERMS, "signs that are neither letters nor digits are blanks;");
        Room room = Due.roomOf(ONE);
        for (char sign = 32; sign < 127; sign++) {
            boolean isBlank = !(sign >= '0' && sign <= '9' || sign >= 'A' && sign <= 'Z' || sign >= 'a' && sign <= 'z');
            finds(room, "1 elm" + sign + "oak", isBlank ? 0 : -1, 0);
        }
        finds(room, "\n1\nelm\n(oak)\n", 0, 0);
    }

    private static void words() {
        Due.holds(TERMS, "WORDS are rows of letters and digits;");
        Room room = Due.roomOf("office o1 7 0 0;street e2m a3 in o1 from 1 to 9 at 0 0 e walk 0;");
        finds(room, "1 e2m a3 o1", 0, 0);
        finds(room, "1 e2m a 3 o1", 0, 1);
        finds(room, "1 e2ma3 o1", 0, 1);
        misses(room, "1e2m a3 o1");
        finds(room, "1 e2m a3 007o1", 0, 3);
    }

    private static void shorts() {
        Due.holds(TERMS, "a WORD that is a short's first NAME is its second one instead.");
        Room room = Due.roomOf("office oakwoods 7 0 0;short ow oakwoods;short st street;short street road;short abcdefghijkl st;"
            + "street long street in oakwoods from 1 to 9 at 0 0 e walk 0;street st in oakwoods from 11 to 19 at 0 0 e walk 0;"
            + "street road in oakwoods from 21 to 29 at 0 0 e walk 0;");
        finds(room, "1 long st ow", 0, 0);
        finds(room, "1 LONG St. OW", 0, 0);
        finds(room, "1 long street ow", -1, 0);
        finds(room, "21 street ow", 2, 0);
        finds(room, "22 st ow", -1, 0);
        finds(room, "11 abcdefghijkl ow", 1, 0);
        misses(room, "11 abcdefghijklm ow");
        finds(room, "21 road 007 ow", 2, 0);
        misses(room, "1 longst ow");
        Room longest = Due.roomOf("office b 5 0 0;short a avenueavenue;street avenueavenue avenueavenue avenueavenue in b from 1 to 9 at 0 0 e walk 0;");
        finds(longest, "1 a A a b", 0, 0);
        Room edges = Due.roomOf("office b 5 0 0;short q aaaaaaaaaaaa;short r z99999999999;short s a;short t z9;street aaaaaaaaaaaa in b from 1 to 9 at 0 0 e"
            + " walk 0;street z99999999999 in b from 1 to 9 at 0 0 e walk 0;street a in b from 1 to 9 at 0 0 e walk 0;street z9 in b from 1 to 9 at 0 0 e"
            + " walk 0;");
        finds(edges, "1 q b", 0, 0);
        finds(edges, "1 r b", 1, 0);
        finds(edges, "1 s b", 2, 0);
        finds(edges, "1 t b", 3, 0);
        misses(longest, "1" + " a".repeat(39));
    }

    private static void door(Room room, String door, int number) {
        Due.is("find " + door, Due.find(room, door + " elm oak"), number < 0 ? -1 : 0);
        if (number >= 0) {
            Due.is("DOOR " + door, room.found(0), number);
        }
    }

    private static void doors() {
        Due.holds(TERMS, "Its form: a DOOR (one to three digits, the first not 0, perhaps a letter at once behind),");
        Room room = Due.roomOf(ONE);
        door(room, "1", 27);
        door(room, "9", 9 * 27);
        door(room, "10", 270);
        door(room, "100", 2700);
        door(room, "999", 999 * 27);
        door(room, "1a", 28);
        door(room, "999z", 999 * 27 + 26);
        door(room, "1000", -1);
        door(room, "1000a", -1);
        door(room, "0", -1);
        door(room, "01", -1);
        door(room, "0a", -1);
        door(room, "012", -1);
        door(room, "12ab", -1);
        door(room, "12a1", -1);
        door(room, "12 a", 324);
        Due.is("the letter is a WORD of the STREET", room.found(1), 2);
        door(room, "a", -1);
        door(room, "a12", -1);
        door(room, "elm", -1);
        door(room, "", -1);
        door(room, "-5", 135);
    }

    private static void streetWords() {
        Due.holds(TERMS, "then the STREET's WORDS, one at least;");
        Room room = Due.roomOf("office oak 7 0 0;street a in oak from 1 to 999 at 0 0 e walk 0;");
        misses(room, "");
        misses(room, "5");
        misses(room, "5 oak");
        misses(room, "5 007");
        finds(room, "5 007 oak", 0, 3);
        finds(room, "5 a oak", 0, 0);
        finds(room, "5 a 007", 0, 0);
        misses(room, "a oak");
        Room many = Due.roomOf("office oak 7 0 0;street abcdefghijkl abcdefghijkl abcdefghijkl in oak from 1 to 9 at 0 0 e walk 0;");
        finds(many, "1 abcdef ghijkl abcdefghijkl abcdefghijkl oak", 0, 1);
        finds(many, "1 abcdefghijkl abcdefghijkl abcdefghijkl oak", 0, 0);
    }

    private static void codes() {
        Due.holds(TERMS, "then perhaps a CODE (a WORD of three digits),");
        Room room = Due.roomOf("office oakwood 7 0 0;street elm in oakwood from 1 to 999 at 0 0 e walk 0;");
        finds(room, "5 elm 007", 0, 0);
        finds(room, "5 elm 007 oakwood", 0, 0);
        finds(room, "5 elm oakwood", 0, 0);
        misses(room, "5 elm 07");
        misses(room, "5 elm 7");
        misses(room, "5 elm 0007");
        misses(room, "5 elm 00a");
        misses(room, "5 elm 0a7");
        misses(room, "5 elm a07");
        misses(room, "5 elm aaa");
        finds(room, "5 elm 7 oakwood", 0, 2);
        finds(room, "5 elm 07 oakwood", 0, 3);
        misses(room, "5 elm 0007 oakwood");
        misses(room, "5 elm 00a oakwood");
    }

    private static void officeWords() {
        Due.holds(TERMS, "then the OFFICE's WORDS, one at least without a CODE.");
        Room room = Due.roomOf("office oak 7 0 0;street elm in oak from 1 to 999 at 0 0 e walk 0;street elm oak in oak from 1 to 5 at 0 0 e walk 0;");
        misses(room, "5 elm");
        misses(room, "6 elm");
        finds(room, "6 elm oak", 0, 0);
        finds(room, "6 elm o ak", 0, 1);
        finds(room, "6 elm 007", 0, 0);
        finds(room, "6 elm 007 o ak", 0, 1);
    }

    private static void firstCode() {
        Due.holds(TERMS, "The first WORD of three digits behind the STREET's first WORD is the CODE;");
        Room room = Due.roomOf("office oak 7 0 0;street a12 in oak from 1 to 9 at 0 0 e walk 0;street elm in oak from 10 to 99 at 0 0 e walk 0;");
        finds(room, "1 112 007", 0, 1);
        finds(room, "1 112 oak", 0, 1);
        misses(room, "1 112");
        finds(room, "20 elm 007 008", 1, 3);
        finds(room, "20 elm 017 oak", 1, 1);
        misses(room, "20 007 elm oak");
        misses(room, "20 elm oak 007");
        finds(room, "20 elm oak", 1, 0);
        Room digits = Due.roomOf("office o07 123 0 0;street elm in o07 from 10 to 99 at 0 0 e walk 0;");
        finds(digits, "20 elm 123 007", 0, 1);
        finds(digits, "20 elm 123 o07", 0, 0);
        misses(digits, "20 elm 007 123");
        finds(digits, "20 elm 007", 0, 3);
    }

    private static void partings() {
        Due.holds(TERMS, "without such a one it may be parted in any place.");
        Room room = Due.roomOf("office long 7 0 0;office wood 8 0 0;street a b c in long from 1 to 9 at 0 0 e walk 0;"
            + "street d in wood from 1 to 9 at 0 0 e walk 0;street d in long from 11 to 19 at 0 0 e walk 0;");
        finds(room, "1 a b c long", 0, 0);
        finds(room, "1 a b c l ong", 0, 1);
        finds(room, "1 d w o od", 1, 2);
        finds(room, "11 d lo ng", 2, 1);
        finds(room, "1 a b clong", 0, 3);
        finds(room, "1 abc lo ng", 0, 3);
        misses(room, "1 abc l o ng");
    }

    private static void far(String name, String asked, int far) {
        Room room = Due.roomOf("office oak 123 0 0;street " + name + " in oak from 1 to 9 at 0 0 e walk 0;");
        finds(room, "1 " + asked + " 123", far > 3 ? -1 : 0, far);
    }

    private static void farness() {
        Due.holds(TERMS, "The FARNESS of two rows of signs: how many signs at least must be put in, left out, changed,");
        far("elmtree", "elmtree", 0);
        far("elmtree", "elmtre", 1);
        far("elmtree", "lmtree", 1);
        far("elmtree", "elmtreee", 1);
        far("elmtree", "xelmtree", 1);
        far("elmtree", "elntree", 1);
        far("elmtree", "elmtrex", 1);
        far("elmtree", "xlmtree", 1);
        far("elmtree", "elntre", 2);
        far("elmtree", "mtree", 2);
        far("elmtree", "elm", 4);
        far("elmtree", "elmt", 3);
        far("elmtree", "tree", 3);
        far("elmtree", "elmtreetre", 3);
        far("elmtree", "elmtreetree", 4);
        far("elmtree", "xxxtree", 3);
        far("elmtree", "xxxxree", 4);
        far("abcd", "bcda", 2);
        far("abcdef", "defabc", 6);
        far("a", "b", 1);
        far("a", "bcd", 3);
        far("abc", "z", 3);
        far("abcdefghijkl abcdefghijkl abcdefghijkl", "bcdefghijkl abcdefghijkl abcdefghijkx", 2);
        far("abcdefghijkl abcdefghijkl abcdefghijkl", "abcdefghijkl abcdefghijkl abcdefghijklmno", 3);
        far("abcdefghijkl abcdefghijkl abcdefghijkl", "abcdefghijkl abcdefghijkl abcdefghijklmnop", 4);
    }

    private static void neighbours() {
        Due.holds(TERMS, "or exchanged with their neighbour (two that stand side by side in both rows, touched no more) to make one of the other.");
        far("ab", "ba", 1);
        far("elmtree", "lemtree", 1);
        far("elmtree", "emltree", 1);
        far("oaktrail", "oaktrali", 1);
        far("abcdef", "badcfe", 3);
        far("abcdefgh", "badcfehg", 4);
        far("ca", "abc", 3);
        far("abc", "ca", 3);
        far("abc", "cab", 2);
        far("abcd", "acdb", 2);
        far("ab", "bxa", 3);
        far("a b", "b a", 2);
        far("ab c", "a bc", 1);
    }

    private static void namesWithBlanks() {
        Due.holds(TERMS, "A PIECE is as far as its NAMES, a blank between, from the STREET's WORDS, likewise;");
        far("ab cd", "ab cd", 0);
        far("ab cd", "ab   , cd", 0);
        far("ab cd", "abcd", 1);
        far("abcd", "ab cd", 1);
        far("a b c", "a b c", 0);
        far("a b c", "abc", 2);
        far("abc", "a b c", 2);
        far("ab cd", "abxcd", 1);
        far("ab cd", "a bcd", 1);
    }

    private static void officeName() {
        Due.holds(TERMS, "its office's NAME from the OFFICE's WORDS (0 without any);");
        Room room = Due.roomOf("office longwood 7 0 0;street elm in longwood from 1 to 999 at 0 0 e walk 0;");
        finds(room, "5 elm 007", 0, 0);
        finds(room, "5 elm 007 longwood", 0, 0);
        finds(room, "5 elm 007 long wood", 0, 1);
        finds(room, "5 elm 007 lnogwood", 0, 1);
        finds(room, "5 elm 007 ongwod", 0, 2);
        finds(room, "5 elm 007 ongwodx", 0, 3);
        misses(room, "5 elm 007 ong");
        misses(room, "5 elm 007 x");
        finds(room, "5 elm longwoodxxx", 0, 3);
        misses(room, "5 elm longwoodxxxx");
    }

    private static void digits() {
        Due.holds(TERMS, "and as many digits of its office's CODE (three, 0s ahead) as are not those of the ADDRESS's CODE;");
        Room room = Due.roomOf("office o 7 0 0;office p 70 0 0;office q 999 0 0;street elm in o from 1 to 9 at 0 0 e walk 0;"
            + "street elm in p from 11 to 19 at 0 0 e walk 0;street elm in q from 21 to 29 at 0 0 e walk 0;");
        finds(room, "1 elm 007", 0, 0);
        finds(room, "1 elm 107", 0, 1);
        finds(room, "1 elm 017", 0, 1);
        finds(room, "1 elm 008", 0, 1);
        finds(room, "1 elm 070", 0, 2);
        finds(room, "1 elm 700", 0, 2);
        finds(room, "1 elm 117", 0, 2);
        finds(room, "1 elm 999", 0, 3);
        finds(room, "1 elm 123", 0, 3);
        misses(room, "1 elmx 123");
        finds(room, "11 elm 070", 1, 0);
        finds(room, "11 elm 007", 1, 2);
        finds(room, "21 elm 999", 2, 0);
        finds(room, "21 elm 990", 2, 1);
        finds(room, "21 elm 000", 2, 3);
    }

    private static void leastParting() {
        Due.holds(TERMS, "in all, of several partings the least.");
        Room room = Due.roomOf("office b 7 0 0;street a b in b from 1 to 9 at 0 0 e walk 0;street a in b from 11 to 19 at 0 0 e walk 0;");
        finds(room, "1 a b b", 0, 0);
        finds(room, "11 a b b", 1, 2);
        finds(room, "1 a b", 0, 2);
        finds(room, "11 a b", 1, 0);
        Room sums = Due.roomOf("office oak 100 0 0;street elm in oak from 1 to 9 at 0 0 e walk 0;");
        finds(sums, "1 elmx 101 oax", 0, 3);
        finds(sums, "1 lm 100 ok", 0, 2);
        misses(sums, "1 lm 111 ok");
        misses(sums, "1 elmxx 101 oax");
    }

    private static void fits() {
        Due.holds(TERMS, "It FITS if the DOOR's number is A .. B, and odd or even as told.");
        Room room = Due.roomOf("office oak 7 0 0;street elmgrove in oak odd from 3 to 9 at 0 0 e walk 0;"
            + "street elmgrove in oak even from 3 to 9 at 0 0 e walk 0;street elmgrove in oak from 20 to 30 at 0 0 e walk 0;"
            + "street firs in oak even from 4 to 8 at 0 0 e walk 0;street ashway in oak odd from 999 to 999 at 0 0 e walk 0;"
            + "street yew in oak from 1 to 1 at 0 0 e walk 0;street ivypath in oak even from 7 to 7 at 0 0 e walk 0;");
        int[] doors = {1, 2, 3, 4, 5, 8, 9, 10, 19, 20, 21, 30, 31};
        int[] due = {-1, -1, 0, 1, 0, 1, 0, -1, -1, 2, 2, 2, -1};
        for (int i = 0; i < doors.length; i++) {
            finds(room, doors[i] + " elmgrove oak", due[i], 0);
            finds(room, doors[i] + "b elmgrove oak", due[i], 0);
        }
        misses(room, "3 firs oak");
        finds(room, "4 firs oak", 3, 0);
        misses(room, "5 firs oak");
        finds(room, "8 firs oak", 3, 0);
        misses(room, "9 firs oak");
        misses(room, "10 firs oak");
        finds(room, "999 ashway oak", 4, 0);
        misses(room, "998 ashway oak");
        finds(room, "1 yew oak", 5, 0);
        misses(room, "2 yew oak");
        misses(room, "7 ivypath oak");
        misses(room, "8 ivypath oak");
    }

    private static void nearest() {
        Due.holds(TERMS, "FOUND is the PIECE that fits and is nearest, if it is 3 or nearer,");
        Room room = Due.roomOf("office oak 7 0 0;street abcdefgh in oak from 1 to 9 at 0 0 e walk 0;street abcdefxy in oak from 1 to 9 at 0 0 e walk 0;");
        finds(room, "1 abcdefgh oak", 0, 0);
        finds(room, "1 abcdefxy oak", 1, 0);
        finds(room, "1 abcdefgx oak", 0, 1);
        finds(room, "1 bcdefxy oak", 1, 1);
        finds(room, "1 abcdezxyz oak", 1, 2);
        finds(room, "1 cdefg oak", 0, 3);
        misses(room, "1 cdef oak");
        finds(room, "1 defgh oak", 0, 3);
        misses(room, "1 efgh oak");
        finds(room, "1 abcdefghoak oak", 0, 3);
        misses(room, "1 abcdefghoakx oak");
        Room later = Due.roomOf("office oak 7 0 0;street elmtr in oak from 1 to 9 at 0 0 e walk 0;street elmtre in oak from 1 to 9 at 0 0 e walk 0;"
            + "street elmtree in oak from 1 to 9 at 0 0 e walk 0;");
        finds(later, "1 elmtree oak", 2, 0);
        finds(later, "1 elmtre oak", 1, 0);
        finds(later, "1 elmtr oak", 0, 0);
        finds(later, "1 elmt oak", 0, 1);
    }

    private static void asNear() {
        Due.holds(TERMS, "and no other one that fits is as near.");
        Room room = Due.roomOf("office oak 7 0 0;street elm in oak from 1 to 20 at 0 0 e walk 0;street elm in oak from 11 to 30 at 0 0 e walk 0;"
            + "street elmt in oak odd from 1 to 30 at 0 0 e walk 0;");
        finds(room, "10 elm oak", 0, 0);
        finds(room, "11 elm oak", -2, 0);
        finds(room, "20 elm oak", -2, 0);
        finds(room, "21 elm oak", 1, 0);
        finds(room, "11 elmt oak", 2, 0);
        finds(room, "12 elmt oak", -2, 0);
        finds(room, "11 elx oak", -2, 0);
        finds(room, "2 elx oak", 0, 1);
        finds(room, "1 elmxt oak", 2, 1);
        finds(room, "1 elxm oak", 0, 1);
        finds(room, "1 elmx oak", -2, 0);
        finds(room, "13 elmxt oak", 2, 1);
    }

    private static void doorNumbers() {
        Due.holds(TERMS, "DOORS have NUMBERS: 27 times the digits' number and the letter's place in the alphabet (0 without).");
        Room room = Due.roomOf(ONE);
        for (int letter = 0; letter <= 26; letter++) {
            String text = letter == 0 ? "" : "" + (char) ('a' + letter - 1);
            door(room, "40" + text, 40 * 27 + letter);
        }
        door(room, "1", 27);
        door(room, "999Z", 26999);
    }

    /** The office stands at (50, 50); a walk to one DOOR is twice as long as it is far. */
    private static void walk(String street, String door, int x, int y) {
        Room room = Due.roomOf("office oak 7 50 50;street elm in oak " + street + " walk 0;service p letter most 9;");
        Due.is("accept " + door, Due.accept(room, 0, 1, 0, door + " elm oak"), 0);
        Due.is("walk to " + door + " of " + street, room.deliver(0, 0), 2 * (Math.abs(x - 50) + Math.abs(y - 50)));
    }

    private static void doorPlaces() {
        Due.holds(TERMS, "A DOOR stands at (X, Y) of its PIECE for the number A, and for each one more 1 further on: "
            + "e X more, w X less, n Y more, s Y less.");
        walk("from 3 to 99 at 60 70 e", "3", 60, 70);
        walk("from 3 to 99 at 60 70 e", "4", 61, 70);
        walk("from 3 to 99 at 60 70 e", "99", 156, 70);
        walk("from 3 to 99 at 60 70 w", "3", 60, 70);
        walk("from 3 to 99 at 60 70 w", "5z", 58, 70);
        walk("from 3 to 99 at 60 70 n", "3a", 60, 70);
        walk("from 3 to 99 at 60 70 n", "13", 60, 80);
        walk("from 3 to 99 at 60 70 s", "13", 60, 60);
        walk("from 3 to 99 at 60 70 s", "33", 60, 40);
        walk("odd from 3 to 99 at 60 70 e", "5", 62, 70);
        walk("even from 3 to 99 at 60 70 n", "4", 60, 71);
        walk("from 1 to 999 at 0 0 w", "999", -998, 0);
        walk("from 1 to 999 at 0 0 s", "999", 0, -998);
        walk("from 1 to 999 at 999 999 e", "999", 1997, 999);
        walk("from 1 to 999 at 999 999 n", "999", 999, 1997);
    }

    private static void findTold() {
        Due.holds("Promise 4: find", "The TAPE is read as an ADDRESS: the PIECE that is FOUND;");
        Room room = Due.roomOf("office oak 7 0 0;office fir 8 0 0;street elmgrove in oak from 1 to 9 at 0 0 e walk 0;"
            + "street elmgrove in fir from 1 to 9 at 0 0 e walk 0;street ashway in fir from 5 to 5 at 0 0 e walk 0;");
        finds(room, "1 elmgrove oak", 0, 0);
        finds(room, "1 elmgrove fir", 1, 0);
        finds(room, "1 Elm Grove, 008 Fir", 1, 1);
        finds(room, "5 ashway 008", 2, 0);
        finds(room, "5 ashway 008 fri", 2, 1);
        misses(room, "6 ashway 008");
    }

    private static void findNone() {
        Due.holds("Promise 4: find", "NONE: it has not the form, or all are too far;");
        Room room = Due.roomOf("office oak 7 0 0;street abcd in oak from 1 to 9 at 0 0 e walk 0;street abcd in oak from 1 to 9 at 0 0 e walk 0;");
        misses(room, "");
        misses(room, "1");
        misses(room, "1 abcd");
        misses(room, "abcd oak");
        misses(room, "1 abcdefgh oak");
        misses(room, "1 vwxyz oak");
        misses(room, "10 abcd oak");
        misses(Due.roomOf(""), "1 abcd oak");
        misses(new Room(), "1 abcd oak");
        misses(Due.roomOf("office oak 7 0 0;"), "1 abcd oak");
    }

    private static void findSeveral() {
        Due.holds("Promise 4: find", "-2: several are nearest.");
        Room room = Due.roomOf("office oak 7 0 0;street abcd in oak from 1 to 9 at 0 0 e walk 0;street abcd in oak from 1 to 9 at 9 9 e walk 0;");
        finds(room, "1 abcd oak", -2, 0);
        finds(room, "1 abc oak", -2, 0);
        finds(room, "1 a oak", -2, 0);
        finds(room, "1 x oak", -1, 0);
        Room three = Due.roomOf("office oak 7 0 0;street aa in oak from 1 to 9 at 0 0 e walk 0;street bb in oak from 1 to 9 at 9 9 e walk 0;"
            + "street cc in oak from 1 to 9 at 9 9 e walk 0;");
        finds(three, "1 dd oak", -2, 0);
        finds(three, "1 ab oak", -2, 0);
        finds(three, "1 cd oak", 2, 1);
        finds(three, "1 aa oak", 0, 0);
    }

    private static void found() {
        Due.holds("Promise 5: found", "Of the latest find() that told a PIECE, what 0: the DOOR's NUMBER, 1: how far it is.");
        Room room = Due.roomOf(ONE + "service p letter most 9;");
        finds(room, "7b elmx oak", 0, 1);
        Due.is("DOOR", room.found(0), 191);
        misses(room, "8 nowhere at all");
        misses(room, "");
        Due.is("DOOR", room.found(0), 191);
        Due.is("far", room.found(1), 1);
        Due.is("accept", Due.accept(room, 0, 1, 0, "9 elm oak"), 0);
        Due.is("moved", Due.moved(room, 0, 27, "9 elm oak"), true);
        Due.is("DOOR", room.found(0), 191);
        Due.is("far", room.found(1), 1);
        finds(room, "9 elmxyz oak", 0, 3);
        Due.is("DOOR", room.found(0), 243);
        finds(room, "9 elm oak", 0, 0);
        Due.is("far", room.found(1), 0);
        Room two = Due.roomOf(ONE + "street elmm in oak from 1 to 9 at 0 0 e walk 0;");
        finds(two, "999a elm oak", 0, 0);
        finds(two, "3 elmx oak", -2, 0);
        Due.is("DOOR", two.found(0), 26974);
        Due.is("far", two.found(1), 0);
    }

    private static void foundOther() {
        Due.holds("Promise 5: found", "NONE without one, since the book, and for another what.");
        Room room = Due.roomOf(ONE);
        Due.is("without one", room.found(0), -1);
        Due.is("without one", room.found(1), -1);
        misses(room, "8 nowhere at all");
        Due.is("without one", room.found(0), -1);
        Due.is("without one", room.found(1), -1);
        finds(room, "7b elm oak", 0, 0);
        int[] others = {-1, 2, 3, Integer.MIN_VALUE, Integer.MAX_VALUE};
        for (int what : others) {
            Due.is("found(" + what + ")", room.found(what), -1);
        }
        Due.is("a FAULT", Due.book(room, "x"), 1);
        Due.is("the same book", room.found(0), 191);
        Due.is("another book", Due.book(room, ONE), 0);
        Due.is("since the book", room.found(0), -1);
        Due.is("since the book", room.found(1), -1);
    }
}
