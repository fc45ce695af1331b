/** The example of README.md: ReadmeTest holds both to each other. */
public final class Example {
    public static void main(String[] args) {
        PostRoom room = new PostRoom();
        feed(room, "office aster 101 10 10; office birch 202 40 10; short ln lane;"
            + "street mill lane in aster from 1 to 40 at 5 5 e walk 0;"
            + "street station road in birch from 1 to 60 at 38 8 w walk 2;"
            + "service plain letter most 100 base 20 each 10 5 over 20;"
            + "coach aster birch first 10 every 30 last 1439 takes 7 holds 2;");
        show("book", room.book());

        feed(room, "12a Mil Ln, 101");
        show("the street that is found", room.find());
        show("its door (27 * 12, and 1 for the a)", room.found(0));
        show("how far that is from what was told", room.found(1));
        show("a price", room.price(0, 41, 0, 1));
        show("the minute in which a way from 0 to 1 comes", room.way(0, 1));

        feed(room, "7 station road birch");
        int item = room.accept(0, 41, 0);
        show("an item is taken in", item);
        show("it goes into a bag", room.sort(0));
        show("the clock", room.tick(17));
        show("where it is (0: on a shelf)", room.item(item, 5));
        show("at which office", room.item(item, 6));
        show("how long the walk is", room.deliver(1, 2));
        show("where it is (3: delivered)", room.item(item, 5));

        StringBuilder bars = new StringBuilder();
        for (int i = 0; i < 33; i++) {
            bars.append(i < 12 ? '?' : (char) ('0' + room.bar(item, i)));
        }
        feed(room, bars.toString());
        show("the item whose bars these are", room.read());
        show("signs mended", room.mended());

        feed(room, "while r0 < 5 { r0 = r0 + 1; } try { r1 = 1 / 0; } on 6 { r2 = r9; }");
        show("programme", room.programme());
        show("a run to its end", room.run(0, 100));
        show("r0", room.number(0));
        show("r2, the refusal that came up", room.number(2));

        feed(room, "office cedar 1000 0 0;");
        int fault = room.book();
        show("a fault's kind", fault % 16);
        show("the place of the wrong token", fault / 16);
    }

    private static void feed(PostRoom room, String text) {
        for (int i = 0; i < text.length(); i += 24) {
            room.feed(eight(text, i), eight(text, i + 8), eight(text, i + 16));
        }
    }

    /** Eight signs, the first one in the highest byte; 0, which is no sign, behind the text's end. */
    private static long eight(String text, int from) {
        long word = 0;
        for (int i = from; i < from + 8; i++) {
            word = word << 8 | (i < text.length() ? text.charAt(i) : 0);
        }
        return word;
    }

    private static void show(String what, long told) {
        System.out.println(what + ": " + told);
    }
}
