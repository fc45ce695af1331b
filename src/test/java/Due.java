import java.util.NoSuchElementException;

/** What the tests share: calls are compared with what is due, and all that differ are printed. */
final class Due {
    static final int ILLEGAL_ARGUMENT = 1;
    static final int NO_ELEMENT = 2;
    static final int OUT_OF_BOUNDS = 3;
    /** Four offices, seven streets, four services and six coaches. */
    static final String BOOK =
        "office aster 101 10 10; office birch 202 40 10; office cedar 303 40 300; office dahlia 909 900 900;\n"
        + "short st street; short rd road; short ln lane;\n"
        + "street mill lane in aster from 1 to 40 at 5 5 e walk 0;"
        + "street high street in aster odd from 1 to 99 at 10 20 n walk 0;"
        + "street high street in aster even from 2 to 98 at 12 20 n walk 1;\n"
        + "street station road in birch from 1 to 60 at 38 8 w walk 0;"
        + "street mill lane in birch from 1 to 20 at 44 9 s walk 0;"
        + "street church way in cedar from 100 to 180 at 40 290 e walk 3;"
        + "street hill in dahlia from 1 to 9 at 901 901 s walk 9;\n"
        + "service plain letter most 100 base 20 each 10 5 over 20 far 4;"
        + "service big parcel most 4000 base 100 each 100 30 over 0 zone 9 500 up 50;"
        + "service sure register most 500 base 60 cut 10 least 50; service free letter most 1;\n"
        + "coach aster birch first 10 every 30 last 1439 takes 7 holds 2;"
        + "coach birch aster first 5 every 60 last 1400 takes 9 holds 20;"
        + "coach birch cedar first 20 every 60 last 1400 takes 40 holds 5;"
        + "coach aster cedar first 0 every 1440 last 0 takes 300 holds 20;"
        + "coach cedar dahlia first 700 every 10 last 720 takes 1000 holds 1;"
        + "coach cedar aster first 30 every 100 last 999 takes 60 holds 3;\n";

    private static int wrong = 0;
    private static int right = 0;
    private static int sentences = 0;
    private static int rightBefore = 0;
    private static String held = "";

    /** A call that may throw. */
    interface Call {
        long answer();
    }

    private Due() {
    }

    /** All that is due from here on holds the class to this sentence of the document; QuotesTest looks it up there. */
    static void holds(String promise, String sentence) {
        leave();
        sentences++;
        rightBefore = right;
        held = promise + ", \"" + sentence + "\": ";
    }

    private static void leave() {
        if (sentences > 0 && right == rightBefore) {
            is("something that was asked of this sentence", 0, 1);
        }
    }

    static void is(String what, long got, long want) {
        if (got == want) {
            right++;
        } else {
            wrong++;
            if (wrong <= 50) {
                System.out.println(held + what + " answered " + got + ", due is " + want);
            }
        }
    }

    static void is(String what, boolean got, boolean want) {
        is(what, got ? 1 : 0, want ? 1 : 0);
    }

    static void is(String what, String got, String want) {
        if (!got.equals(want)) {
            System.out.println("got " + got + "\ndue " + want);
        }
        is(what, got.equals(want), true);
    }

    static void fires(String what, Call call, int due) {
        int got = 0;
        try {
            call.answer();
        } catch (IllegalArgumentException e) {
            got = ILLEGAL_ARGUMENT;
        } catch (NoSuchElementException e) {
            got = NO_ELEMENT;
        } catch (IndexOutOfBoundsException e) {
            got = e.getClass() == IndexOutOfBoundsException.class ? OUT_OF_BOUNDS : -1;
        } catch (RuntimeException e) {
            got = -1;
        }
        is(what + " throws (1 IllegalArgument, 2 NoSuchElement, 3 IndexOutOfBounds)", got, due);
    }

    static void end(String test) {
        leave();
        String told = sentences > 0 ? sentences + " sentences, " : "";
        System.out.println(test + ": " + told + right + " answers as due, " + wrong + " not");
        if (wrong != 0) {
            System.exit(1);
        }
    }

    static int feed(Room room, String text) {
        int told = text.isEmpty() ? room.count(16) : 0;
        for (int i = 0; i < text.length(); i += 24) {
            told = room.feed(word(text, i), word(text, i + 8), word(text, i + 16));
        }
        return told;
    }

    private static long word(String text, int from) {
        long word = 0;
        for (int i = from; i < from + 8; i++) {
            word = word << 8 | (i < text.length() ? text.charAt(i) & 255 : 0);
        }
        return word;
    }

    static int book(Room room, String text) {
        feed(room, text);
        return room.book();
    }

    static Room roomOf(String text) {
        Room room = new Room();
        is("book " + text, book(room, text), 0);
        return room;
    }

    /** The mark | stands ahead of the token that is wrong. */
    static void bookFault(int kind, String marked) {
        int place = marked.indexOf('|');
        String text = marked.substring(0, place) + marked.substring(place + 1);
        Room room = roomOf("office old 7 7 7;");
        is("fault of book " + marked, book(room, text), kind + 16 * place);
        is("the old book stays", room.count(0), 1);
        is("the tape is taken", room.count(16), 0);
    }

    /** The mark | stands ahead of the token that is wrong. */
    static void programmeFault(int kind, String marked) {
        int place = marked.indexOf('|');
        String text = marked.substring(0, place) + marked.substring(place + 1);
        Room room = roomOf("office old 7 7 7;");
        is("programme", programme(room, "r1=77;"), 0);
        is("fault of programme " + marked, programme(room, text), kind + 16 * place);
        is("the tape is taken", room.count(16), 0);
        is("the old programme stays", room.run(0, 5), 0);
        is("the old programme stays", room.number(1), 77);
    }

    static int find(Room room, String text) {
        feed(room, text);
        return room.find();
    }

    static int accept(Room room, int service, int weight, int from, String text) {
        feed(room, text);
        return room.accept(service, weight, from);
    }

    static boolean moved(Room room, int piece, int door, String text) {
        feed(room, text);
        return room.moved(piece, door);
    }

    static int read(Room room, String text) {
        feed(room, text);
        return room.read();
    }

    static int programme(Room room, String text) {
        feed(room, text);
        return room.programme();
    }

    static String bars(Room room, int item) {
        StringBuilder text = new StringBuilder();
        for (int i = 0; i < 33; i++) {
            text.append((char) ('0' + room.bar(item, i)));
        }
        return text.toString();
    }
}
