/** Terms 5 (ITEMS), of MOVED DOORS; promises 14 to 16; each sentence that names an edge by itself. */
public final class DeliverySentencesTest {
    private static final String TERMS = "Terms 5, ITEMS";
    private static final String DELIVER = "Promise 14: deliver";
    private static final int MIN = Integer.MIN_VALUE;
    private static final int MAX = Integer.MAX_VALUE;
    /** Office a stands at (50, 50); DOOR n of street s at (49 + n, 50), that of street n at (50, 49 + n). */
    private static final String BOOK = "office a 1 50 50;office b 2 90 90;street s in a from 1 to 99 at 50 50 e walk 0;"
        + "street n in a from 1 to 99 at 50 50 n walk 0;street zz in a from 1 to 99 at 50 50 w walk 9;street bb in b from 1 to 99 at 90 90 s walk 0;"
        + "service r register most 9;coach a b first 10 every 1440 last 10 takes 5 holds 9;coach b a first 20 every 1440 last 20 takes 5 holds 9;";

    public static void main(String[] args) {
        ofThatWalk();
        sentFirst();
        stops();
        eightStops();
        leastWalk();
        severalWalks();
        stopByStop();
        howLong();
        noStop();
        back();
        wrongInputs();
        movedOrGone();
        twice();
        sentBack();
        stays();
        movedAgain();
        nothingFound();
        itself();
        noPiece();
        doorNumber();
        forty();
        gone();
        goneFalse();
        Due.end("DeliverySentencesTest");
    }

    private static Room roomOf(String... addresses) {
        Room room = Due.roomOf(BOOK);
        for (int i = 0; i < addresses.length; i++) {
            Due.is("accept " + addresses[i], Due.accept(room, 0, 1, 0, addresses[i]), i);
        }
        return room;
    }

    private static int line(int seal, int item, int what, Room room) {
        return ItemSentencesTest.line(seal, item, what, 0, room.count(4));
    }

    private static void onShelf(Room room, int... due) {
        for (int k = 0; k <= due.length; k++) {
            Due.is("on the SHELF, " + k, room.shelf(0, k), k < due.length ? due[k] : -1);
        }
    }

    private static void ofThatWalk() {
        Due.holds(DELIVER, "ITEMS on an office's SHELF are delivered, those with a PIECE of this office whose street has that walk (0 .. 9), in order.");
        Room room = roomOf("3 s a", "5 zz a", "2 bb b", "4 s a");
        Due.accept(room, 0, 1, 1, "2 s a");
        Due.is("walk 0", room.deliver(0, 0), 6);
        onShelf(room, 1, 2);
        Due.is("walk 1", room.deliver(0, 1), -1);
        Due.is("walk 8", room.deliver(0, 8), -1);
        Due.is("walk 9", room.deliver(0, 9), 8);
        onShelf(room, 2);
        Due.is("of another office", room.deliver(1, 0), -1);
        Due.is("of another office", room.item(4, 5), 0);
        Due.is("three are delivered", room.count(9), 3);
        Due.is("when they come there", room.sort(0) + room.sort(1), 2);
        room.tick(25);
        Due.is("they are delivered there", room.deliver(1, 0), 2);
        Due.is("they are delivered there", room.deliver(0, 0), 2);
    }

    private static void sentFirst() {
        Due.holds(DELIVER, "Those of a MOVED DOOR are sent after, back first, and stay.");
        Room room = roomOf("3 s a", "4 s a", "5 s a", "4a s a");
        Due.is("moved", Due.moved(room, 0, 4 * 27, "9 s a"), true);
        Due.is("gone", room.gone(0, 5 * 27), true);
        int seal = room.count(12);
        Due.is("the walk to 3 and to 4a", room.deliver(0, 0), 6);
        seal = line(seal, 1, 6, room);
        seal = line(seal, 2, 7, room);
        seal = line(seal, 0, 4, room);
        seal = line(seal, 3, 4, room);
        Due.is("SEAL", room.count(12), seal);
        onShelf(room, 1, 2);
        Due.is("sent after", room.item(1, 4), 9 * 27);
        Due.is("sent back", room.item(2, 3), -1);
        Due.is("the next time", room.deliver(0, 0), 16);
        onShelf(room, 2);
    }

    private static void stops() {
        Due.holds(DELIVER, "Of the others the places of their DOORS are stops, each once, in the order in which they first come,");
        Room room = roomOf("5 s a", "5a s a", "5z s a", "1 s a", "1 n a");
        Due.is("two places", room.deliver(0, 0), 8);
        Due.is("all five", room.count(9), 5);
        Due.accept(room, 0, 1, 0, "5 s a");
        Due.is("the same place in another walk", room.deliver(0, 0), 8);
        Due.accept(room, 0, 1, 0, "1 s a");
        Due.accept(room, 0, 1, 0, "5b s a");
        Due.is("both in another walk", room.deliver(0, 0), 8);
        Due.is("all eight", room.count(9), 8);
        Room many = roomOf("9 s a", "2 s a", "9a s a", "3 s a", "9b s a", "4 s a", "2a s a", "5 s a", "6 s a", "7 s a", "8 s a", "3a s a", "8a s a");
        Due.is("eight places", many.deliver(0, 0), 16);
        Due.is("all", many.count(9), 13);
    }

    private static void eightStops() {
        Due.holds(DELIVER, "eight at most (ITEMS of further ones stay).");
        Room room = roomOf("2 s a", "3 s a", "4 s a", "5 s a", "6 s a", "7 s a", "8 s a", "9 s a", "10 s a", "2a s a", "11 s a", "9a s a", "10a s a");
        Due.is("as far as the eighth", room.deliver(0, 0), 16);
        onShelf(room, 8, 10, 12);
        Due.is("then the others", room.deliver(0, 0), 20);
        onShelf(room);
        Room moved = roomOf("1 s a", "2 s a", "3 s a", "4 s a", "5 s a", "6 s a", "7 s a", "8 s a", "9 s a");
        moved.gone(0, 27);
        Due.is("one of a MOVED DOOR is no stop", moved.deliver(0, 0), 16);
        onShelf(moved, 0);
    }

    private static void leastWalk() {
        Due.holds(DELIVER, "Gone is the least walk from the office's X and Y through all stops and back, two places being as far as their X's and "
            + "their Y's differ, added;");
        Room room = roomOf("11 s a", "11 n a", "6 s a", "6 n a");
        Due.is("10 there, 20 across, 10 back", room.deliver(0, 0), 40);
        Room all = Due.roomOf("office a 1 50 50;street e1 in a from 1 to 99 at 51 50 e walk 0;street wwww in a from 1 to 99 at 49 50 w walk 0;"
            + "street nnnnnnn in a from 1 to 99 at 50 51 n walk 0;street sssssssss in a from 1 to 99 at 50 49 s walk 0;service p letter most 9;");
        String[] stops = {"10 e1 a", "20 e1 a", "10 wwww a", "20 wwww a", "10 nnnnnnn a", "20 nnnnnnn a", "10 sssssssss a", "20 sssssssss a"};
        for (int i = 0; i < 8; i++) {
            Due.accept(all, 0, 1, 0, stops[i]);
        }
        Due.is("out and back by each arm", all.deliver(0, 0), 160);
        Room below = Due.roomOf("office a 1 0 0;street s in a from 1 to 99 at 0 5 w walk 0;street tt in a from 1 to 99 at 5 0 s walk 0;"
            + "service p letter most 9;");
        Due.accept(below, 0, 1, 0, "11 s a");
        Due.accept(below, 0, 1, 0, "11 tt a");
        Due.is("below 0", below.deliver(0, 0), 15 + 30 + 15);
    }

    private static void severalWalks() {
        Due.holds(DELIVER, "of several the one whose first stop is earlier in that order, then the second one, and so on.");
        Room room = roomOf("11 s a", "6 s a", "11 n a", "6 n a");
        int seal = room.count(12);
        Due.is("walk", room.deliver(0, 0), 40);
        int[] order = {0, 1, 2, 3};
        for (int item : order) {
            seal = line(seal, item, 4, room);
        }
        Due.is("SEAL: to the far one first, by the near one back", room.count(12), seal);
        Room other = roomOf("6 n a", "11 n a", "6 s a", "11 s a");
        seal = other.count(12);
        Due.is("walk", other.deliver(0, 0), 40);
        int[] second = {0, 1, 2, 3};
        for (int item : second) {
            seal = line(seal, item, 4, other);
        }
        Due.is("SEAL: each as it comes", other.count(12), seal);
        Room third = roomOf("2 s a", "3 s a", "4 s a", "1 s a", "5 s a");
        seal = third.count(12);
        Due.is("walk", third.deliver(0, 0), 8);
        int[] line = {0, 1, 2, 4, 3};
        for (int item : line) {
            seal = line(seal, item, 4, third);
        }
        Due.is("SEAL: out, and the office's own place on the way back", third.count(12), seal);
    }

    private static void stopByStop() {
        Due.holds(DELIVER, "ITEMS are delivered stop by stop, those of one in order.");
        Room room = roomOf("9 s a", "2 n a", "9a s a", "2a n a", "9 s a");
        int seal = room.count(12);
        Due.is("walk", room.deliver(0, 0), 18);
        int[] order = {0, 2, 4, 1, 3};
        for (int item : order) {
            seal = line(seal, item, 4, room);
        }
        Due.is("SEAL", room.count(12), seal);
    }

    private static void howLong() {
        Due.holds(DELIVER, "Told is how long the walk is;");
        Due.is("at the office itself", roomOf("1 s a").deliver(0, 0), 0);
        Due.is("next to it", roomOf("2 s a").deliver(0, 0), 2);
        Due.is("two at one place", roomOf("2 s a", "2b s a").deliver(0, 0), 2);
        Due.is("as far as can be", roomOf("99 s a", "99 n a").deliver(0, 0), 4 * 98);
        Room far = Due.roomOf("office a 1 0 0;street s in a from 1 to 999 at 999 999 e walk 0;service p letter most 9;");
        Due.accept(far, 0, 1, 0, "999 s a");
        Due.is("still farther", far.deliver(0, 0), 2 * (1997 + 999));
    }

    private static void noStop() {
        Due.holds(DELIVER, "NONE if there is no stop.");
        Due.is("an empty SHELF", roomOf().deliver(0, 0), -1);
        Due.is("of another walk", roomOf("1 zz a").deliver(0, 0), -1);
        Due.is("of another office", roomOf("1 bb b").deliver(0, 0), -1);
        Room room = roomOf("1 s a");
        room.gone(0, 27);
        Due.is("one is sent back", room.deliver(0, 0), -1);
        Due.is("one without a PIECE", room.deliver(0, 0), -1);
        onShelf(room, 0);
    }

    private static void back() {
        Due.holds(DELIVER, "Walk 10: ITEMS without a PIECE that go to this office are back, in order: how many.");
        Room room = roomOf("1 s a", "2 s a", "3 s a");
        Due.accept(room, 0, 1, 1, "3 s a");
        room.gone(0, 27);
        room.gone(0, 81);
        Due.is("none has lost its PIECE", room.deliver(0, 10), 0);
        room.sort(1);
        room.tick(25);
        Due.is("three are sent back", room.deliver(0, 0), 2);
        onShelf(room, 0, 2, 3);
        int seal = room.count(12);
        Due.is("two go to this office", room.deliver(0, 10), 2);
        seal = line(line(seal, 0, 5, room), 2, 5, room);
        Due.is("SEAL", room.count(12), seal);
        onShelf(room, 3);
        Due.is("no more", room.deliver(0, 10), 0);
        Due.is("the other one goes to b", room.sort(0), 1);
        room.tick(1440);
        Due.is("where it is back", room.deliver(1, 10), 1);
        Due.is("all are", room.count(10), 3);
    }

    private static void wrongInputs() {
        Due.holds(DELIVER, "-2: no such office, walk.");
        Room room = roomOf("1 s a");
        int[][] wrong = {{-1, 0}, {2, 0}, {0, -1}, {0, 11}, {-1, 10}, {2, 10}, {16, 0}, {MIN, 0}, {MAX, 0}, {0, MIN}, {0, MAX}, {2, 11}};
        for (int[] w : wrong) {
            Due.is("deliver(" + w[0] + ", " + w[1] + ")", room.deliver(w[0], w[1]), -2);
        }
        onShelf(room, 0);
        Due.is("the last office, walk 9", room.deliver(1, 9), -1);
        Due.is("the last office, walk 10", room.deliver(1, 10), 0);
    }

    private static void movedOrGone() {
        Due.holds(TERMS, "MOVED DOORS: to another PIECE and DOOR, or GONE. To SEND AFTER an ITEM: it has the new PIECE and DOOR;");
        Room room = roomOf("3 s a", "3a s a", "3 n a", "4 s a");
        Due.is("moved", Due.moved(room, 0, 81, "7z bb b"), true);
        Due.is("gone", room.gone(0, 82), true);
        Due.is("the others are delivered", room.deliver(0, 0), 10);
        onShelf(room, 0, 1);
        Due.is("its new PIECE", room.item(0, 3), 3);
        Due.is("its new DOOR", room.item(0, 4), 7 * 27 + 26);
        Due.is("sent after once", room.item(0, 9), 1);
        Due.is("it goes to that office", room.sort(0), 1);
        Due.is("the other one has no PIECE", room.item(1, 3), -1);
        Due.is("and was not sent after", room.item(1, 9), 0);
        room.tick(15);
        Due.is("it is delivered there", room.deliver(1, 0), 12);
    }

    private static void twice() {
        Due.holds(TERMS, "if that was done twice with it, it is sent back instead.");
        Room room = roomOf("1 s a");
        Due.moved(room, 0, 27, "2 s a");
        Due.moved(room, 0, 54, "1 s a");
        int seal = room.count(12);
        Due.is("once", room.deliver(0, 0), -1);
        Due.is("DOOR 2", room.item(0, 4), 54);
        Due.is("twice", room.deliver(0, 0), -1);
        Due.is("DOOR 1", room.item(0, 4), 27);
        Due.is("twice", room.item(0, 9), 2);
        Due.is("it has its PIECE still", room.item(0, 3), 0);
        Due.is("sent back instead", room.deliver(0, 0), -1);
        Due.is("no PIECE", room.item(0, 3), -1);
        Due.is("the DOOR that it had", room.item(0, 4), 27);
        Due.is("twice", room.item(0, 9), 2);
        seal = line(line(line(seal, 0, 6, room), 0, 6, room), 0, 7, room);
        Due.is("SEAL", room.count(12), seal);
        Room stops = roomOf("1 s a");
        Due.moved(stops, 0, 27, "2 s a");
        Due.moved(stops, 0, 54, "3 s a");
        stops.deliver(0, 0);
        stops.deliver(0, 0);
        Due.is("after twice it can be delivered", stops.deliver(0, 0), 4);
    }

    private static void sentBack() {
        Due.holds(TERMS, "To SEND BACK: it has no PIECE, and goes to the office that it is from.");
        Room room = Due.roomOf(BOOK);
        Due.accept(room, 0, 1, 1, "3 s a");
        room.sort(1);
        room.tick(25);
        room.gone(0, 81);
        Due.is("sent back", room.deliver(0, 0), -1);
        Due.is("no PIECE", room.item(0, 3), -1);
        Due.is("it does not go to here", room.deliver(0, 10), 0);
        Due.programme(room, "r0=code shelf 0;r1=next shelf 0;");
        Due.is("run", room.run(0, 9), 0);
        Due.is("CODE of that office", room.number(0), 2);
        Due.is("its coach", room.number(1), 0);
        Due.is("sort", room.sort(0), 1);
        room.tick(2000);
        Due.is("no walk takes it there", room.deliver(1, 0), -1);
        Due.is("it is back", room.deliver(1, 10), 1);
        Due.is("for good", room.item(0, 5), 4);
    }

    private static void stays() {
        Due.holds(TERMS, "In both it stays in its place on the SHELF.");
        Room room = roomOf("1 zz a", "3 s a", "2 zz a", "4 s a", "3 zz a");
        Due.moved(room, 0, 81, "5 n a");
        room.gone(0, 108);
        room.tick(7);
        Due.is("sent after, sent back", room.deliver(0, 0), -1);
        onShelf(room, 0, 1, 2, 3, 4);
        Due.is("where it is", room.item(1, 5), 0);
        Due.is("when it came there", room.item(1, 10), 0);
        Due.is("when it came there", room.item(3, 10), 0);
    }

    private static void movedAgain() {
        Due.holds("Promise 15: moved", "The TAPE is an ADDRESS: a DOOR (its PIECE, its NUMBER) is MOVED to what is FOUND, whatever was told of it: true.");
        Room room = roomOf("3 s a", "3 n a");
        Due.is("moved", Due.moved(room, 0, 81, "5 s a"), true);
        Due.is("moved elsewhere", Due.moved(room, 0, 81, "6b bb b"), true);
        Due.is("one DOOR", room.count(11), 1);
        Due.is("gone", room.gone(0, 81), true);
        Due.is("moved again", Due.moved(room, 0, 81, "7 zz a"), true);
        Due.is("one DOOR", room.count(11), 1);
        Due.is("the same NUMBER of another PIECE", room.deliver(0, 0), 4);
        Due.is("to the latest", room.item(0, 3), 2);
        Due.is("to the latest", room.item(0, 4), 7 * 27);
        Due.is("the same telling", Due.moved(room, 0, 81, "7 zz a"), true);
        Due.is("as well as it can be found", Due.moved(room, 0, 81, "7 zx a"), true);
        Due.is("a DOOR that is not of the street", Due.moved(room, 0, 999 * 27, "1 s a"), true);
        Due.is("two DOORS", room.count(11), 2);
    }

    private static void nothingFound() {
        Due.holds("Promise 15: moved", "False: nothing is FOUND,");
        Room room = Due.roomOf(BOOK + "street bc in b from 1 to 99 at 0 0 s walk 0;");
        String[] none = {"", "1", "1 nowhere at all", "100 s a", "1 bd b", "1 s a" + " ".repeat(76)};
        for (String text : none) {
            Due.is("moved to " + text, Due.moved(room, 0, 54, text), false);
        }
        Due.is("none", room.count(11), 0);
        Due.is("moved", Due.moved(room, 0, 54, "1 bc b"), true);
        Due.is("not to " + none[2], Due.moved(room, 0, 54, none[2]), false);
        Due.accept(room, 0, 1, 0, "2 s a");
        room.deliver(0, 0);
        Due.is("the first telling stays", room.item(0, 3), 4);
    }

    private static void itself() {
        Due.holds("Promise 15: moved", "that is the DOOR itself,");
        Room room = roomOf("3 s a");
        Due.is("itself", Due.moved(room, 0, 81, "3 s a"), false);
        Due.is("none", room.count(11), 0);
        Due.is("another letter", Due.moved(room, 0, 81, "3a s a"), true);
        Due.is("itself, though MOVED", Due.moved(room, 0, 81, "3 s a"), false);
        Due.is("the same NUMBER of another PIECE", Due.moved(room, 1, 81, "3 s a"), true);
        Due.is("two", room.count(11), 2);
        room.deliver(0, 0);
        Due.is("the first telling stays", room.item(0, 4), 82);
    }

    private static void noPiece() {
        Due.holds("Promise 15: moved", "no such PIECE,");
        Room room = roomOf();
        int[] wrong = {-1, 4, 60, MIN, MAX};
        for (int piece : wrong) {
            Due.is("moved(" + piece + ", 81)", Due.moved(room, piece, 81, "1 s a"), false);
            Due.is("gone(" + piece + ", 81)", room.gone(piece, 81), false);
        }
        Due.is("none", room.count(11), 0);
        Due.is("the last one", Due.moved(room, 3, 81, "1 s a"), true);
    }

    private static void doorNumber() {
        Due.holds("Promise 15: moved", "the NUMBER is not 27 .. 26999,");
        Room room = roomOf();
        int[] wrong = {26, 0, -1, -27, 27000, 27027, MIN, MAX};
        for (int door : wrong) {
            Due.is("moved(0, " + door + ")", Due.moved(room, 0, door, "1 s a"), false);
            Due.is("moved(1, " + door + ")", Due.moved(room, 1, door, "1 s a"), false);
            Due.is("gone(0, " + door + ")", room.gone(0, door), false);
        }
        Due.is("none", room.count(11), 0);
        Due.is("27", Due.moved(room, 0, 27, "9 s a"), true);
        Due.is("26999", Due.moved(room, 0, 26999, "9 s a"), true);
        Due.is("two", room.count(11), 2);
    }

    private static void forty() {
        Due.holds("Promise 15: moved", "or 40 DOORS are MOVED and this one is not.");
        Room room = roomOf("40 s a", "41 s a");
        for (int i = 1; i <= 40; i++) {
            boolean told = i % 2 == 0 ? room.gone(0, 27 * i) : Due.moved(room, 0, 27 * i, "9 bb b");
            Due.is("DOOR " + i, told, true);
            Due.is("so many", room.count(11), i);
        }
        Due.is("a 41st", Due.moved(room, 0, 27 * 41, "9 bb b"), false);
        Due.is("a 41st", Due.moved(room, 1, 27, "9 bb b"), false);
        Due.is("a 41st GONE", room.gone(0, 27 * 41), false);
        Due.is("40", room.count(11), 40);
        Due.is("one of these", Due.moved(room, 0, 27 * 40, "9 bb b"), true);
        Due.is("the first of these", room.gone(0, 27), true);
        Due.is("40", room.count(11), 40);
        Due.is("the 41st is delivered", room.deliver(0, 0), 80);
        Due.is("the 40th is sent after", room.item(0, 3), 3);
    }

    private static void gone() {
        Due.holds("Promise 16: gone", "A DOOR is GONE, likewise: true;");
        Room room = roomOf("3 s a", "3a s a");
        Due.is("gone", room.gone(0, 81), true);
        Due.is("again", room.gone(0, 81), true);
        Due.is("one", room.count(11), 1);
        Due.is("moved", Due.moved(room, 0, 82, "9 n a"), true);
        Due.is("and gone", room.gone(0, 82), true);
        Due.is("two", room.count(11), 2);
        Due.is("both are sent back", room.deliver(0, 0), -1);
        Due.is("no PIECE", room.item(0, 3), -1);
        Due.is("no PIECE", room.item(1, 3), -1);
        Due.is("both are back", room.deliver(0, 10), 2);
    }

    private static void goneFalse() {
        Due.holds("Promise 16: gone", "false as above.");
        Room room = roomOf("3 s a");
        int[][] wrong = {{-1, 81}, {4, 81}, {0, 26}, {0, 27000}, {MIN, 81}, {MAX, 81}, {0, MIN}, {0, MAX}};
        for (int[] w : wrong) {
            Due.is("gone(" + w[0] + ", " + w[1] + ")", room.gone(w[0], w[1]), false);
        }
        Due.is("none", room.count(11), 0);
        Due.is("delivered", room.deliver(0, 0), 4);
        Due.is("the last one", room.gone(3, 26999), true);
    }
}
