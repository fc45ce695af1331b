/** What the document says of the whole face: what a call leaves alone that is refused, or throws; memory; the constant. */
public final class FaceSentencesTest {
    private static final int MIN = Integer.MIN_VALUE;
    private static final int MAX = Integer.MAX_VALUE;

    public static void main(String[] args) {
        withoutTape();
        thrown();
        withTape();
        twoHundred();
        questions();
        ownMemory();
        constant();
        Due.end("FaceSentencesTest");
    }

    /** A call of the face that answers with a number; a boolean is 1 or 0. */
    private interface Asked {
        long of(Room room);
    }

    /** In a room of its own, so that few calls are needed of each. */
    private static void refused(String what, Asked call, long due, boolean takesTape) {
        Room room = World.make();
        String before = World.look(room);
        Due.feed(room, "junk.");
        Due.is(what, call.of(room), due);
        Due.is("the TAPE behind " + what, room.count(16), takesTape ? 0 : 5);
        Due.is("all behind " + what, World.look(room), before);
        Due.is("the programme behind " + what, room.run(0, World.RUN_STEPS), 0);
        Due.is("does what it did", room.number(3), 77);
    }

    private static void withoutTape() {
        Due.holds("The public face", "A call that is refused, or throws, changes nothing");
        refused("found(2)", room -> room.found(2), -1, false);
        refused("price, too heavy", room -> room.price(0, 101, 0, 0), -1, false);
        refused("way, both are one", room -> room.way(1, 1), -1, false);
        refused("tick(-1)", room -> room.tick(-1), -1, false);
        refused("tick(3001)", room -> room.tick(3001), -1, false);
        refused("sort(-1)", room -> room.sort(-1), -1, false);
        refused("sort(2)", room -> room.sort(2), -1, false);
        refused("deliver(2, 0)", room -> room.deliver(2, 0), -2, false);
        refused("deliver(0, 11)", room -> room.deliver(0, 11), -2, false);
        refused("deliver(0, -1)", room -> room.deliver(0, -1), -2, false);
        refused("deliver(0, 9), no stop", room -> room.deliver(0, 9), -1, false);
        refused("gone(2, 27)", room -> room.gone(2, 27) ? 1 : 0, 0, false);
        refused("gone(0, 26)", room -> room.gone(0, 26) ? 1 : 0, 0, false);
        refused("gone(0, 27000)", room -> room.gone(0, 27000) ? 1 : 0, 0, false);
        refused("run(2, 5)", room -> room.run(2, 5), -1, false);
        refused("run(0, 0)", room -> room.run(0, 0), -1, false);
        refused("run(0, 20001)", room -> room.run(0, 20001), -1, false);
        refused("shelf(2, 0)", room -> room.shelf(2, 0), -1, false);
        refused("bag(2, 0)", room -> room.bag(2, 0), -1, false);
        refused("count(18)", room -> room.count(18), -1, false);
        refused("tray(0, 3)", room -> room.tray(0, 3), -1, false);
    }

    private static long fires(Due.Call call, int due) {
        Due.fires("a call", call, due);
        return 0;
    }

    private static void thrown() {
        Due.holds("The public face", "A call that is refused, or throws, changes nothing");
        refused("price", room -> fires(() -> room.price(2, 1, 0, 0), Due.ILLEGAL_ARGUMENT), 0, false);
        refused("way", room -> fires(() -> room.way(0, 2), Due.ILLEGAL_ARGUMENT), 0, false);
        refused("accept", room -> fires(() -> room.accept(2, 5, 0), Due.ILLEGAL_ARGUMENT), 0, true);
        refused("accept", room -> fires(() -> room.accept(0, 5, 2), Due.ILLEGAL_ARGUMENT), 0, true);
        refused("bar", room -> fires(() -> room.bar(World.ITEMS, 0), Due.NO_ELEMENT), 0, false);
        refused("bar", room -> fires(() -> room.bar(0, 33), Due.NO_ELEMENT), 0, false);
        refused("number", room -> fires(() -> room.number(10), Due.OUT_OF_BOUNDS), 0, false);
        refused("held", room -> fires(() -> room.held(4), Due.OUT_OF_BOUNDS), 0, false);
        refused("tray", room -> fires(() -> room.tray(12, 0), Due.OUT_OF_BOUNDS), 0, false);
        refused("place", room -> fires(() -> room.place(0, 0), Due.NO_ELEMENT), 0, false);
        refused("item", room -> fires(() -> room.item(World.ITEMS, 0), Due.NO_ELEMENT), 0, false);
        refused("item", room -> fires(() -> room.item(0, 11), Due.NO_ELEMENT), 0, false);
    }

    /** The text told takes the place of what is on the TAPE. */
    private static Asked on(String text, Asked call) {
        return room -> {
            room.find();
            Due.feed(room, text);
            return call.of(room);
        };
    }

    private static void withTape() {
        Due.holds("The public face", "changes nothing (but that what reads the TAPE takes it).");
        refused("book", Room::book, 1, true);
        refused("book", on("office a 1 1 1;office b 2 2 2;office c 2 3 3;", Room::book), 3 + 16 * 39, true);
        refused("book", on(World.BOOK + "office", Room::book), 1 + 16 * (World.BOOK.length() + 6), true);
        refused("find", Room::find, -1, true);
        refused("find", on("1 nowhere 101", Room::find), -1, true);
        refused("accept", room -> room.accept(0, 5, 0), -1, true);
        refused("accept", on("1 mill st 101", room -> room.accept(0, 101, 0)), -3, true);
        refused("read", Room::read, -3, true);
        refused("read", on("?".repeat(33), Room::read), -1, true);
        refused("moved", room -> room.moved(0, 27) ? 1 : 0, 0, true);
        refused("moved", on("1 mill st 101", room -> room.moved(0, 27) ? 1 : 0), 0, true);
        refused("moved", on("1 mill st 101", room -> room.moved(2, 27) ? 1 : 0), 0, true);
        refused("moved", on("1 mill st 101", room -> room.moved(0, 26) ? 1 : 0), 0, true);
        refused("moved", on("1 mill st 101", room -> room.moved(0, 27000) ? 1 : 0), 0, true);
        refused("programme", Room::programme, 1, true);
        refused("programme", on("r3=1;stop;make@2 longs 9;refuse", Room::programme), 1 + 16 * 31, true);
        refused("programme", on("r3=1;try{}on 10{}", Room::programme), 4 + 16 * 13, true);
    }

    private static void twoHundred() {
        Due.holds("Promise 8: accept", "-4: 200 are there; the first of these that holds.");
        Room room = Due.roomOf(World.BOOK);
        for (int i = 0; i < 200; i++) {
            Due.accept(room, 1, 5, i % 2, "1 mill st 101");
        }
        int seal = room.count(12);
        Due.is("one more", Due.accept(room, 1, 5, 0, "1 mill st 101"), -4);
        Due.is("the TAPE is taken", room.count(16), 0);
        Due.is("SEAL", room.count(12), seal);
        Due.is("prices", room.count(15), 12000);
        Due.is("the SHELF", room.shelf(0, 99), 198);
        Due.is("behind it", room.shelf(0, 100), -1);
        Due.is("the other one", room.shelf(1, 100), -1);
    }

    /** What only tells something changes nothing either, whatever is asked. */
    private static void questions() {
        Due.holds("The public face", "A call that is refused, or throws, changes nothing");
        Room room = World.make();
        String before = World.look(room);
        int[] edges = {MIN, -1, 0, 1, 12, 60, MAX};
        for (int edge : edges) {
            Due.is("found", room.found(edge) >= -1, true);
            Due.is("shelf", room.shelf(edge, edge) >= -1, true);
            Due.is("bag", room.bag(edge, edge) >= -1, true);
            Due.is("count", room.count(edge) >= -1, true);
        }
        Due.is("all behind that", World.look(room), before);
    }

    private static void ownMemory() {
        Due.holds("The public face", "All memory is the class's own.");
        Room first = World.make();
        String before = World.look(first);
        Room other = Due.roomOf("office z 9 9 9;street s in z from 1 to 9 at 0 0 e walk 0;service p letter most 9;");
        Due.is("accept", Due.accept(other, 0, 1, 0, "1 s z"), 0);
        Due.is("programme", Due.programme(other, "r3=5;x0=shelf 0;make@2 bytes 9;"), 0);
        Due.is("run", other.run(0, 9), 0);
        Due.is("gone", other.gone(0, 27), true);
        Due.is("find", Due.find(other, "9 s 009"), 0);
        Due.is("read", Due.read(other, "0".repeat(33)), -2);
        Due.is("tick", other.tick(3000), 3000);
        Due.feed(other, "five.");
        Due.is("the first one is as it was", World.look(first), before);
        Due.is("its TAPE is empty", first.count(16), 0);
        Due.is("and the other one's is not", other.count(16), 5);
        Due.is("its programme", first.run(0, World.RUN_STEPS), 0);
        Due.is("does what it did", first.number(3), 77);
        Due.is("the other one's", other.number(3), 5);
    }

    private static void constant() {
        Due.holds("The public face", "`NONE = -1`: There is none.");
        Due.is("NONE", PostRoom.NONE, -1);
    }
}
