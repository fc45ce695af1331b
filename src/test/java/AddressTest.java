import java.util.Random;

/** Promises 4 and 5: find, found. */
public final class AddressTest {
    public static void main(String[] args) {
        forms();
        doors();
        partings();
        codes();
        shorts();
        nearness();
        found();
        againstPlainFarness();
        againstPlainPartings();
        Due.end("AddressTest");
    }

    private static void finds(Room room, String text, int piece, int door, int far) {
        int got = Due.find(room, text);
        Due.is("find " + text, got, piece);
        Due.is("the tape is taken", room.count(16), 0);
        if (got >= 0) {
            Due.is("door of " + text, room.found(0), door);
            Due.is("far of " + text, room.found(1), far);
        }
    }

    private static void misses(Room room, String text) {
        Due.is("find " + text, Due.find(room, text), -1);
    }

    private static void forms() {
        Room room = Due.roomOf(Due.BOOK);
        finds(room, "12 mill lane aster", 0, 324, 0);
        finds(room, "12,Mill--LANE\n(101)", 0, 324, 0);
        finds(room, "  12  mill lane 101 aster  ", 0, 324, 0);
        finds(room, "5 hill dahlia", 6, 135, 0);
        finds(room, "5 hill 909", 6, 135, 0);
        misses(room, "");
        misses(room, "12");
        misses(room, "12 mill");
        misses(room, "hill dahlia");
        misses(room, "12 101 aster");
        misses(room, "5 909");
        misses(room, "mill lane 12 aster");
        StringBuilder text = new StringBuilder("5 hill dahlia");
        while (text.length() < 80) {
            text.append('.');
        }
        finds(room, text.toString(), 6, 135, 0);
        misses(room, text + ".");
        finds(room, "5 HILL DAHLIA", 6, 135, 0);
    }

    private static void doors() {
        Room room = Due.roomOf("office o 5 0 0;street s in o from 1 to 999 at 0 0 e walk 0;");
        finds(room, "1 s o", 0, 27, 0);
        finds(room, "999z s o", 0, 26999, 0);
        finds(room, "10A s o", 0, 271, 0);
        finds(room, "1m s o", 0, 40, 0);
        finds(room, "2Z S O", 0, 80, 0);
        misses(room, "0 s o");
        misses(room, "01 s o");
        misses(room, "1000 s o");
        misses(room, "12ab s o");
        misses(room, "12a1 s o");
        misses(room, "a s o");
        misses(room, "a1 s o");
        misses(room, "999zz s o");
        Room parts = Due.roomOf("office o 5 0 0;street s in o odd from 3 to 9 at 0 0 e walk 0;"
            + "street s in o even from 3 to 9 at 0 0 e walk 0;street s in o from 20 to 30 at 0 0 e walk 0;");
        misses(parts, "1 s o");
        misses(parts, "2 s o");
        finds(parts, "3 s o", 0, 81, 0);
        finds(parts, "4b s o", 1, 110, 0);
        finds(parts, "8 s o", 1, 216, 0);
        finds(parts, "9 s o", 0, 243, 0);
        misses(parts, "10 s o");
        misses(parts, "19 s o");
        finds(parts, "20 s o", 2, 540, 0);
        finds(parts, "30 s o", 2, 810, 0);
        misses(parts, "31 s o");
    }

    private static void partings() {
        Room room = Due.roomOf("office ab 5 0 0;office cd 6 0 0;street x y in cd from 1 to 9 at 0 0 e walk 0;"
            + "street longname in ab from 1 to 9 at 0 0 e walk 0;");
        finds(room, "1 x y cd", 0, 27, 0);
        finds(room, "1 xy cd", 0, 27, 1);
        finds(room, "1 x y c d", 0, 27, 1);
        finds(room, "1 long name ab", 1, 27, 1);
        finds(room, "1 longname a b", 1, 27, 1);
        finds(room, "1 lon gname a b", 1, 27, 2);
        misses(room, "1 longname");
    }

    private static void codes() {
        Room room = Due.roomOf("office ab 5 0 0;office cdef 106 0 0;street s t in ab"
            + " from 1 to 9 at 0 0 e walk 0;street u in cdef from 1 to 9 at 0 0 e walk 0;");
        finds(room, "1 s t 005", 0, 27, 0);
        finds(room, "1 s t 005 ab", 0, 27, 0);
        finds(room, "1 s t 015 ab", 0, 27, 1);
        finds(room, "1 s t 105 bb", 0, 27, 2);
        finds(room, "1 s t 111", 0, 27, 3);
        misses(room, "1 s t 111 a");
        finds(room, "1 s t 5 ab", 0, 27, 2);
        finds(room, "1 st 050 ab", 0, 27, 3);
        finds(room, "1 u 106 cdef", 1, 27, 0);
        misses(room, "1 u 106 005");
    }

    private static void shorts() {
        Room room = Due.roomOf("office bigtown 5 0 0;short b bigtown;short st street;short street road;"
            + "short a1 avenueavenue;street main street in bigtown from 1 to 9 at 0 0 e walk 0;"
            + "street avenueavenue avenueavenue avenueavenue in bigtown from 1 to 9 at 0 0 e walk 0;");
        finds(room, "1 Main St, B", 0, 27, 0);
        Room other = Due.roomOf("office zed 5 0 0;short q zed;short by z;street z in zed from 1 to 9 at 0 0 e walk 0;");
        finds(other, "1 by q", 0, 27, 0);
        finds(other, "1 Z Q", 0, 27, 0);
        misses(room, "1 main street b");
        finds(room, "1 main stret b", 0, 27, 1);
        finds(room, "1 a1 A1 a1 b", 1, 27, 0);
        finds(room, "1 a1 a1 a1 005 b", 1, 27, 0);
        Due.is("the shorts make it long", Due.find(room,
            "1 a1 a1 a1 a1 a1 a1 a1 a1 a1 a1 a1 a1 a1 a1 a1 a1 a1 a1 a1 a1 a1 a1 a1 a1 b"), -1);
        Due.is("as many words as can be", Due.find(room,
            "1 b b b b b b b b b b b b b b b b b b b b b b b b b b b b b b b b b b b b b b b"), -1);
        Room longest = Due.roomOf("office b 5 0 0;short a avenueavenue;street s in b from 1 to 9 at 0 0 e walk 0;");
        Due.is("as long as can be", Due.find(longest,
            "1 a a a a a a a a a a a a a a a a a a a a a a a a a a a a a a a a a a a a a a a"), -1);
        Due.is("a long word", Due.find(room,
            "1 aaaaaaaaaaaaaaaaaaaaaaaaaaaaaaaaaaaaaaaaaaaaaaaaaaaaaaaaaaaaaaaaaaaaaaaaaaaa b"), -1);
    }

    private static void nearness() {
        Room room = Due.roomOf("office town 5 0 0;office down 6 0 0;street abcdef in town from 1 to 9 at 0 0 e walk 0;"
            + "street abcdef in down from 1 to 9 at 0 0 e walk 0;street abcxyz in town from 1 to 5 at 0 0 e walk 0;");
        finds(room, "1 abcdef town", 0, 27, 0);
        finds(room, "1 abcdef down", 1, 27, 0);
        Due.is("both are nearest", Due.find(room, "1 abcdef own"), -2);
        Due.is("both are nearest", Due.find(room, "1 abcdef bown"), -2);
        finds(room, "1 abcdef twon", 0, 27, 1);
        finds(room, "1 badcfe town", 0, 27, 3);
        misses(room, "1 badcfe tonw");
        finds(room, "1 abcdeffff town", 0, 27, 3);
        misses(room, "1 abcdefffff town");
        Due.is("two at 3", Due.find(room, "1 abc town"), -2);
        finds(room, "6 abc town", 0, 162, 3);
        misses(room, "1 ab town");
    }

    private static void found() {
        Room room = Due.roomOf(Due.BOOK);
        finds(room, "7 station rod birch", 3, 189, 1);
        Due.is("found(2)", room.found(2), -1);
        Due.is("found(-1)", room.found(-1), -1);
        misses(room, "7 nowhere at all");
        Due.is("of the latest that told one", room.found(0), 189);
        Due.is("accept", Due.accept(room, 0, 1, 0, "1 mill lane aster"), 0);
        Due.is("only of find", room.found(0), 189);
        Due.is("moved", Due.moved(room, 0, 54, "1 mill lane aster") ? 1 : 0, 1);
        Due.is("only of find", room.found(1), 1);
    }

    /** Told by the rule's words: the least over what may be done with the last signs. */
    static int far(String a, String b) {
        int[][] least = new int[a.length() + 1][b.length() + 1];
        for (int i = 0; i <= a.length(); i++) {
            for (int j = 0; j <= b.length(); j++) {
                int best = i == 0 ? j : j == 0 ? i : 99;
                if (i > 0) {
                    best = Math.min(best, least[i - 1][j] + 1);
                }
                if (j > 0) {
                    best = Math.min(best, least[i][j - 1] + 1);
                }
                if (i > 0 && j > 0) {
                    best = Math.min(best, least[i - 1][j - 1] + (a.charAt(i - 1) == b.charAt(j - 1) ? 0 : 1));
                }
                if (i > 1 && j > 1 && a.charAt(i - 1) == b.charAt(j - 2) && a.charAt(i - 2) == b.charAt(j - 1)) {
                    best = Math.min(best, least[i - 2][j - 2] + 1);
                }
                least[i][j] = best;
            }
        }
        return least[a.length()][b.length()];
    }

    private static String word(Random random, int most, int letters) {
        StringBuilder text = new StringBuilder();
        int length = 1 + random.nextInt(most);
        for (int i = 0; i < length; i++) {
            text.append((char) ('a' + random.nextInt(letters)));
        }
        return text.toString();
    }

    private static String spoiled(Random random, String text, int times) {
        StringBuilder row = new StringBuilder(text);
        for (int i = 0; i < times; i++) {
            int at = random.nextInt(row.length() + 1);
            int what = random.nextInt(4);
            char sign = (char) ('a' + random.nextInt(3));
            if (what == 0) {
                row.insert(at, sign);
            } else if (what == 1 && at < row.length() && row.length() > 1) {
                row.deleteCharAt(at);
            } else if (what == 2 && at < row.length()) {
                row.setCharAt(at, sign);
            } else if (at > 0 && at < row.length()) {
                char other = row.charAt(at);
                row.setCharAt(at, row.charAt(at - 1));
                row.setCharAt(at - 1, other);
            }
        }
        return row.toString();
    }

    private static void againstPlainFarness() {
        Random random = new Random(5);
        for (int i = 0; i < 3000; i++) {
            String name = word(random, 12, 3);
            String asked = spoiled(random, name, random.nextInt(5));
            Room room = new Room();
            Due.book(room, "office o 123 0 0;street " + name + " in o from 1 to 9 at 0 0 e walk 0;");
            if (name.equals("in")) {
                continue;
            }
            int far = far(name, asked);
            int got = Due.find(room, "1 " + asked + " 123");
            Due.is("farness of " + name + " " + asked, got < 0 ? 4 : room.found(1), Math.min(4, far));
        }
    }

    /** Several streets, words and partings, with and without a code. */
    private static void againstPlainPartings() {
        Random random = new Random(6);
        for (int i = 0; i < 1500; i++) {
            int offices = 1 + random.nextInt(3);
            String[] officeNames = new String[offices];
            StringBuilder book = new StringBuilder();
            for (int k = 0; k < offices; k++) {
                officeNames[k] = "o" + k + word(random, 3, 2);
                book.append("office ").append(officeNames[k]).append(" ").append(111 * (k + 1)).append(" 0 0;");
            }
            int streets = 1 + random.nextInt(4);
            String[] names = new String[streets];
            int[] at = new int[streets];
            for (int k = 0; k < streets; k++) {
                names[k] = word(random, 4, 2) + (random.nextBoolean() ? " " + word(random, 3, 2) : "");
                at[k] = random.nextInt(offices);
                book.append("street ").append(names[k]).append(" in ").append(officeNames[at[k]]);
                book.append(" from 1 to 9 at 0 0 e walk 0;");
            }
            Room room = Due.roomOf(book.toString());
            for (int q = 0; q < 4; q++) {
                int k = random.nextInt(streets);
                int code = random.nextInt(3);
                String street = spoiled(random, names[k], random.nextInt(2)).trim();
                String office = spoiled(random, officeNames[at[k]], random.nextInt(2)).trim();
                String middle = code == 0 ? "" : " " + (code == 1 ? 111 * (at[k] + 1) : 100 + random.nextInt(200));
                String text = ("3 " + street + middle + " " + office).replaceAll(" +", " ");
                int due = plain(text.substring(2), names, at, officeNames);
                int got = Due.find(room, text);
                Due.is("find " + text + " in " + book, got >= 0 ? 10 * got + room.found(1) : got, due);
            }
        }
    }

    private static int plain(String rest, String[] names, int[] at, String[] offices) {
        String[] words = rest.split(" ");
        int code = -1;
        for (int i = words.length - 1; i >= 1; i--) {
            code = words[i].matches("[0-9]{3}") ? i : code;
        }
        int best = -1;
        int least = 4;
        int nearest = 0;
        for (int k = 0; k < names.length; k++) {
            int far = 99;
            for (int p = 1; p < words.length; p++) {
                if (code < 0) {
                    far = Math.min(far, far(names[k], join(words, 0, p)) + far(offices[at[k]], join(words, p, words.length)));
                } else if (p == code) {
                    String last = join(words, p + 1, words.length);
                    far = far(names[k], join(words, 0, p)) + (last.isEmpty() ? 0 : far(offices[at[k]], last));
                    String due = "" + 111 * (at[k] + 1);
                    for (int d = 0; d < 3; d++) {
                        far += due.charAt(d) == words[p].charAt(d) ? 0 : 1;
                    }
                }
            }
            nearest = far < least ? 1 : far == least ? nearest + 1 : nearest;
            best = far < least ? k : best;
            least = Math.min(far, least);
        }
        return best < 0 ? -1 : nearest > 1 ? -2 : 10 * best + least;
    }

    private static String join(String[] words, int from, int to) {
        StringBuilder text = new StringBuilder();
        for (int i = from; i < to; i++) {
            text.append(i > from ? " " : "").append(words[i]);
        }
        return text.toString();
    }
}
