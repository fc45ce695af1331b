/** Promises 7, 8, 12 to 16 and 23 to 26 at their edges, and with wrong inputs. */
public final class PostTest {
    private static final int MIN = Integer.MIN_VALUE;
    private static final int MAX = Integer.MAX_VALUE;

    public static void main(String[] args) {
        ways();
        laterFirstCoach();
        roundAboutTie();
        farthestWay();
        longestWay();
        acceptance();
        ticks();
        sorting();
        walks();
        eightStops();
        sentAfterTwice();
        movedDoors();
        movedLimit();
        items();
        seal();
        Due.end("PostTest");
    }

    private static void ways() {
        Room room = Due.roomOf(Due.BOOK);
        int[][] wrong = {{-1, 0}, {0, -1}, {4, 0}, {0, 4}, {MIN, 0}, {0, MAX}, {4, 4}};
        for (int[] w : wrong) {
            Due.fires("way", () -> room.way(w[0], w[1]), Due.ILLEGAL_ARGUMENT);
        }
        Due.is("both are one", room.way(1, 1), -1);
        Due.is("none", room.way(3, 0), -1);
        Due.is("behind the clock", room.way(0, 1), 17);
        room.tick(9);
        Due.is("at 9", room.way(0, 1), 17);
        room.tick(1);
        Due.is("at 10: behind it", room.way(0, 1), 47);
        room.tick(1425);
        Due.is("at 1435: the next day", room.way(0, 1), 1440 + 17);
        Due.is("at 1435: by the last", room.way(1, 0), 1440 + 14);
    }

    /** The first coach comes later than the second, but reaches the same third one. */
    private static void laterFirstCoach() {
        Room room = Due.roomOf("office a 1 0 0;office b 2 0 0;office c 3 0 0;street s in c from 1 to 9 at 0 0 e walk 0;"
            + "service p letter most 9;coach a b first 30 every 1440 last 30 takes 5 holds 1;"
            + "coach a b first 10 every 1440 last 10 takes 5 holds 1;coach b c first 50 every 1440 last 50 takes 5 holds 1;");
        Due.is("way", room.way(0, 2), 55);
        Due.is("way to b", room.way(0, 1), 15);
        Due.accept(room, 0, 1, 0, "1 s 003");
        Due.is("sort", room.sort(0), 1);
        Due.is("bag of the first told", room.bag(0, 0), 0);
    }

    /** Even a coach that only goes and comes back ahead of the right one is told first. */
    private static void roundAboutTie() {
        Room room = Due.roomOf("office a 1 0 0;office b 2 0 0;office c 3 0 0;street s in c from 1 to 9 at 0 0 e walk 0;"
            + "service p letter most 9;coach a b first 5 every 1440 last 5 takes 5 holds 1;"
            + "coach b a first 15 every 1440 last 15 takes 5 holds 1;coach a c first 50 every 1440 last 50 takes 5 holds 1;");
        Due.is("way", room.way(0, 2), 55);
        Due.accept(room, 0, 1, 0, "1 s 003");
        Due.is("sort", room.sort(0), 1);
        Due.is("bag of the first told", room.bag(0, 0), 0);
    }

    private static void farthestWay() {
        StringBuilder text = new StringBuilder();
        for (int i = 0; i < 9; i++) {
            text.append("office o").append(i).append(" ").append(i + 1).append(" 0 0;");
        }
        for (int i = 0; i < 8; i++) {
            int takes = i < 6 ? 2879 : i == 6 ? 2880 : 1;
            text.append("coach o").append(i).append(" o").append(i + 1).append(" first 1 every 1440 last 1 takes ").append(takes).append(" holds 1;");
        }
        Room room = Due.roomOf(text.toString());
        Due.is("6 coaches", room.way(0, 6), 6 * 2880);
        Due.is("20160 and 1 minutes", room.way(0, 7), -1);
        Due.is("still more", room.way(0, 8), -1);
        room.tick(1);
        Due.is("at 1: one day later", room.way(0, 6), 6 * 2880 + 1440);
        Room other = Due.roomOf(text.toString().replace("takes 2880", "takes 2879"));
        Due.is("20160 minutes", other.way(0, 7), 20160);
        Due.is("20160 minutes and more", other.way(0, 8), -1);
    }

    /** All sixteen offices one behind the other, the coaches told from the last one on. */
    private static void longestWay() {
        StringBuilder text = new StringBuilder();
        for (int i = 0; i < 16; i++) {
            text.append("office o").append(i).append(" ").append(i + 1).append(" 0 0;");
        }
        for (int i = 14; i >= 0; i--) {
            text.append("coach o").append(i).append(" o").append(i + 1).append(" first 0 every 1 last 1439 takes 9 holds 1;");
        }
        Room room = Due.roomOf(text.toString());
        for (int i = 1; i < 16; i++) {
            Due.is("way to " + i, room.way(0, i), 10 * i);
        }
        Due.is("none back", room.way(15, 0), -1);
    }

    private static void acceptance() {
        Room room = Due.roomOf(Due.BOOK);
        int[][] wrong = {{-1, 1, 0}, {4, 1, 0}, {0, 1, -1}, {0, 1, 4}, {MAX, 1, 0}, {0, 1, MIN}, {4, 0, 0}};
        for (int[] w : wrong) {
            Due.feed(room, "1 mill lane 101");
            Due.fires("accept", () -> room.accept(w[0], w[1], w[2]), Due.ILLEGAL_ARGUMENT);
            Due.is("the tape is taken", room.count(16), 0);
            Due.is("nothing is taken in", room.count(5), 0);
        }
        Due.is("no address", Due.accept(room, 0, 1, 0, "1 nowhere 999"), -1);
        Due.is("no address, no weight", Due.accept(room, 0, 101, 0, ""), -1);
        Due.is("no weight", Due.accept(room, 0, 101, 0, "1 mill lane 101"), -3);
        Due.is("no weight", Due.accept(room, 0, 0, 0, "1 mill lane 101"), -3);
        Due.is("the tape is taken", room.count(16), 0);
        Room two = Due.roomOf("office a 1 0 0;street s in a from 1 to 9 at 0 0 e walk 0;street t in a from 1 to 9 at 0 0 e walk 0;"
            + "service p letter most 5 base 3;");
        Due.is("several", Due.accept(two, 0, 9, 0, "1 u a"), -2);
        for (int i = 0; i < 200; i++) {
            Due.is("accept", Due.accept(two, 0, 1 + i % 5, 0, "1 s a"), i);
        }
        Due.is("200 are there, no weight", Due.accept(two, 0, 6, 0, "1 s a"), -3);
        Due.is("200 are there", Due.accept(two, 0, 5, 0, "1 s a"), -4);
        Due.is("200 are there, several", Due.accept(two, 0, 5, 0, "1 u a"), -2);
        Due.is("count", two.count(5), 200);
        Due.is("prices", two.count(15), 600);
        Due.is("last on the shelf", two.shelf(0, 199), 199);
        Due.is("behind it", two.shelf(0, 200), -1);
    }

    private static void ticks() {
        Room room = Due.roomOf(Due.BOOK);
        Due.is("tick(-1)", room.tick(-1), -1);
        Due.is("tick(3001)", room.tick(3001), -1);
        Due.is("tick(MIN)", room.tick(MIN), -1);
        Due.is("tick(MAX)", room.tick(MAX), -1);
        Due.is("tick(0)", room.tick(0), 0);
        Due.is("tick(3000)", room.tick(3000), 3000);
        Due.is("clock", room.count(4), 3000);
        Room mail = Due.roomOf(Due.BOOK);
        for (int i = 0; i < 3; i++) {
            Due.is("accept", Due.accept(mail, 2, 9, 0, "7 station road birch"), i);
        }
        Due.is("sort", mail.sort(0), 3);
        mail.tick(9);
        Due.is("not yet gone", mail.count(7), 3);
        mail.tick(1);
        Due.is("two went", mail.count(8), 2);
        Due.is("one coach", mail.count(17), 1);
        Due.is("one waits", mail.bag(0, 0), 2);
        Due.is("no more", mail.bag(0, 1), -1);
        Due.is("where: coach", mail.item(0, 5), 2);
        Due.is("its second office", mail.item(0, 6), 1);
        Due.is("its coach", mail.item(0, 7), 0);
        Due.is("since", mail.item(0, 10), 10);
        mail.tick(0);
        mail.tick(6);
        Due.is("still under way", mail.count(8), 2);
        mail.tick(1);
        Due.is("they came", mail.count(17), 0);
        Due.is("shelf", mail.shelf(1, 0), 0);
        Due.is("shelf", mail.shelf(1, 1), 1);
        Due.is("since", mail.item(1, 10), 17);
        Due.is("no coach", mail.item(1, 7), -1);
        mail.tick(23);
        Due.is("the third went", mail.item(2, 10), 40);
    }

    private static void sorting() {
        Room room = Due.roomOf(Due.BOOK);
        Due.is("sort(-1)", room.sort(-1), -1);
        Due.is("sort(4)", room.sort(4), -1);
        Due.is("sort(MAX)", room.sort(MAX), -1);
        Due.is("nothing there", room.sort(0), 0);
        Due.accept(room, 0, 1, 0, "1 mill lane 101");
        Due.accept(room, 0, 1, 0, "1 mill lane 202");
        Due.accept(room, 0, 1, 3, "1 mill lane 202");
        Due.is("one of two", room.sort(0), 1);
        Due.is("the other stays", room.shelf(0, 0), 0);
        Due.is("without a way", room.sort(3), 0);
        Due.is("stays", room.shelf(3, 0), 2);
        Due.is("bag(-1, 0)", room.bag(-1, 0), -1);
        Due.is("bag(6, 0)", room.bag(6, 0), -1);
        Due.is("bag(0, -1)", room.bag(0, -1), -1);
        Due.is("bag(0, 0)", room.bag(0, 0), 1);
        Due.is("bag(0, MAX)", room.bag(0, MAX), -1);
        Due.is("shelf(-1, 0)", room.shelf(-1, 0), -1);
        Due.is("shelf(4, 0)", room.shelf(4, 0), -1);
        Due.is("shelf(0, -1)", room.shelf(0, -1), -1);
        Due.is("shelf(MIN, MIN)", room.shelf(MIN, MIN), -1);
    }

    private static void walks() {
        Room room = Due.roomOf(Due.BOOK);
        int[][] wrong = {{-1, 0}, {4, 0}, {0, -1}, {0, 11}, {MAX, 0}, {0, MIN}, {-1, 10}};
        for (int[] w : wrong) {
            Due.is("deliver(" + w[0] + ", " + w[1] + ")", room.deliver(w[0], w[1]), -2);
        }
        Due.is("no stop", room.deliver(0, 0), -1);
        Due.is("nothing back", room.deliver(0, 10), 0);
        Due.accept(room, 0, 1, 0, "1 mill lane 101");
        Due.accept(room, 0, 1, 0, "1a mill lane 101");
        Due.accept(room, 0, 1, 0, "2 high street 101");
        Due.accept(room, 0, 1, 0, "1 mill lane birch");
        Due.is("another walk", room.deliver(0, 2), -1);
        Due.is("another office", room.deliver(1, 0), -1);
        Due.is("two letters at one stop", room.deliver(0, 0), 20);
        Due.is("delivered", room.count(9), 2);
        Due.is("where it was", room.item(0, 6), 0);
        Due.is("that of walk 1", room.deliver(0, 1), 24);
        Due.is("the last stays", room.shelf(0, 0), 3);
    }

    /** Nine places: those of the ninth stay, those at an earlier one go; ties by the order of the stops. */
    private static void eightStops() {
        Room room = Due.roomOf("office a 1 50 50;street s in a from 1 to 99 at 50 50 e walk 0;service r register most 9;");
        int[] doors = {11, 1, 21, 31, 41, 51, 61, 71, 81, 11, 91};
        for (int door : doors) {
            Due.accept(room, 0, 1, 0, door + " s a");
        }
        Due.is("as far as 71", room.deliver(0, 0), 140);
        Due.is("nine items", room.count(9), 9);
        Due.is("stays", room.shelf(0, 0), 8);
        Due.is("stays", room.shelf(0, 1), 10);
        int seal = 7;
        for (int i = 0; i < 11; i++) {
            seal = (33 * seal + i) % 65521;
        }
        int[] order = {0, 9, 2, 3, 4, 5, 6, 7, 1};
        for (int item : order) {
            seal = (33 * seal + item + 32) % 65521;
        }
        Due.is("the earliest stop first, and that at the office last", room.count(12), seal);
    }

    private static void sentAfterTwice() {
        Room room = Due.roomOf("office a 1 0 0;street s in a from 1 to 9 at 0 0 e walk 0;street t in a from 1 to 9 at 0 5 e walk 0;"
            + "service p letter most 9 base 8;");
        Due.is("moved", Due.moved(room, 0, 27, "2 s a") ? 1 : 0, 1);
        Due.is("moved", Due.moved(room, 0, 54, "3 t a") ? 1 : 0, 1);
        Due.is("moved", Due.moved(room, 1, 81, "1 s a") ? 1 : 0, 1);
        Due.accept(room, 0, 5, 0, "1 s a");
        room.tick(5);
        Due.is("sent after", room.deliver(0, 0), -1);
        Due.is("door", room.item(0, 4), 54);
        Due.is("sent after once", room.item(0, 9), 1);
        Due.is("it stays where it was since", room.item(0, 10), 0);
        Due.is("sent after again", room.deliver(0, 0), -1);
        Due.is("piece", room.item(0, 3), 1);
        Due.is("door", room.item(0, 4), 81);
        Due.is("twice", room.item(0, 9), 2);
        Due.is("not back yet", room.deliver(0, 10), 0);
        Due.is("sent back instead", room.deliver(0, 0), -1);
        Due.is("no piece", room.item(0, 3), -1);
        Due.is("the door it had", room.item(0, 4), 81);
        Due.is("twice", room.item(0, 9), 2);
        Due.is("on the shelf", room.item(0, 5), 0);
        Due.is("nothing more to walk to", room.deliver(0, 0), -1);
        Due.is("back", room.deliver(0, 10), 1);
        Due.is("where", room.item(0, 5), 4);
        Due.is("since", room.item(0, 10), 5);
        Due.is("its price stays", room.item(0, 8), 8);
        Due.is("bars stay", Due.read(room, Due.bars(room, 0)), 0);
        Due.accept(room, 0, 5, 0, "1 s a");
        Due.accept(room, 0, 5, 0, "5 s a");
        Due.is("one sent after, one delivered", room.deliver(0, 0), 8);
        Due.is("stays", room.shelf(0, 0), 1);
        Due.is("alone", room.shelf(0, 1), -1);
    }

    private static boolean tellsMoved(Room room, int piece, int door, String text) {
        boolean told = Due.moved(room, piece, door, text);
        Due.is("the tape is taken", room.count(16), 0);
        return told;
    }

    private static void movedDoors() {
        Room room = Due.roomOf(Due.BOOK);
        Due.is("nothing found", tellsMoved(room, 0, 27, "1 nowhere 999") ? 1 : 0, 0);
        Due.is("no tape", tellsMoved(room, 0, 27, "") ? 1 : 0, 0);
        Due.is("the door itself", tellsMoved(room, 0, 27, "1 mill lane 101") ? 1 : 0, 0);
        Due.is("another letter", tellsMoved(room, 0, 27, "1a mill lane 101") ? 1 : 0, 1);
        Due.is("no such piece", tellsMoved(room, 7, 27, "1 mill lane 101") ? 1 : 0, 0);
        Due.is("no such piece", tellsMoved(room, -1, 27, "1 mill lane 101") ? 1 : 0, 0);
        Due.is("26", tellsMoved(room, 0, 26, "1 mill lane 101") ? 1 : 0, 0);
        Due.is("27000", tellsMoved(room, 0, 27000, "1 mill lane 101") ? 1 : 0, 0);
        Due.is("26999", tellsMoved(room, 0, 26999, "1 mill lane 101") ? 1 : 0, 1);
        Due.is("least", tellsMoved(room, MIN, MIN, "1 mill lane 101") ? 1 : 0, 0);
        Due.is("gone piece", room.gone(7, 27) ? 1 : 0, 0);
        Due.is("gone piece", room.gone(-1, 27) ? 1 : 0, 0);
        Due.is("gone 26", room.gone(0, 26) ? 1 : 0, 0);
        Due.is("gone 27000", room.gone(0, 27000) ? 1 : 0, 0);
        Due.is("gone MAX", room.gone(MAX, MAX) ? 1 : 0, 0);
        Due.is("two", room.count(11), 2);
        Due.feed(room, "7 station rd birch");
        Due.is("gone", room.gone(0, 27) ? 1 : 0, 1);
        Due.is("gone does not read the tape", room.count(16), 18);
        Due.is("still two", room.count(11), 2);
        Due.is("moved again", room.moved(0, 27) ? 1 : 0, 1);
        Due.is("still two", room.count(11), 2);
        Due.accept(room, 0, 1, 0, "1 mill lane 101");
        room.deliver(0, 0);
        Due.is("to the latest", room.item(0, 3), 3);
    }

    private static void movedLimit() {
        Room room = Due.roomOf(Due.BOOK);
        for (int i = 0; i < 40; i++) {
            Due.is("gone", room.gone(0, 27 + i) ? 1 : 0, 1);
        }
        Due.is("40", room.count(11), 40);
        Due.is("a 41st", room.gone(0, 67) ? 1 : 0, 0);
        Due.is("a 41st", Due.moved(room, 1, 27, "1 mill lane birch") ? 1 : 0, 0);
        Due.is("one of these", room.gone(0, 66) ? 1 : 0, 1);
        Due.is("one of these", Due.moved(room, 0, 27, "1 mill lane birch") ? 1 : 0, 1);
        Due.is("40", room.count(11), 40);
    }

    private static void items() {
        Room room = Due.roomOf(Due.BOOK);
        Due.accept(room, 1, 150, 2, "7b station road birch");
        int[] due = {1, 150, 2, 3, 191, 0, 2, -1, 200, 0, 0};
        for (int i = 0; i < due.length; i++) {
            Due.is("item(0, " + i + ")", room.item(0, i), due[i]);
        }
        int[][] wrong = {{-1, 0}, {1, 0}, {0, -1}, {0, 11}, {MAX, 0}, {0, MIN}};
        for (int[] w : wrong) {
            Due.fires("item", () -> room.item(w[0], w[1]), Due.NO_ELEMENT);
        }
        Due.is("count(MAX)", room.count(MAX), -1);
        Due.is("count(MIN)", room.count(MIN), -1);
        Due.is("sent", room.sort(2), 1);
        Due.is("in a bag", room.item(0, 5), 1);
        Due.is("at the coach's first office", room.item(0, 6), 2);
        Due.is("coach", room.item(0, 7), 5);
    }

    /** All eight kinds of lines in the log, by hand. */
    private static void seal() {
        Room room = Due.roomOf("office a 1 0 0;office b 2 0 0;street s in b from 1 to 9 at 0 0 e walk 0;"
            + "service r register most 9;service p letter most 9;coach a b first 3 every 1440 last 3 takes 4 holds 9;"
            + "coach b a first 9 every 1440 last 9 takes 2 holds 9;");
        int seal = 7;
        Due.accept(room, 1, 1, 0, "1 s b");
        Due.is("others are not in the log", room.count(12), 7);
        Due.accept(room, 0, 1, 0, "1 s b");
        Due.accept(room, 0, 1, 0, "2 s b");
        Due.moved(room, 0, 27, "3 s b");
        room.gone(0, 81);
        seal = line(seal, 1, 0, 0, 0);
        seal = line(seal, 2, 0, 0, 0);
        Due.is("taken in", room.count(12), seal);
        room.tick(1);
        room.sort(0);
        seal = line(line(seal, 1, 1, 0, 1), 2, 1, 0, 1);
        Due.is("bag", room.count(12), seal);
        room.tick(2);
        seal = line(line(seal, 1, 2, 0, 3), 2, 2, 0, 3);
        Due.is("coach", room.count(12), seal);
        room.tick(5);
        seal = line(line(seal, 1, 3, 1, 7), 2, 3, 1, 7);
        Due.is("shelf", room.count(12), seal);
        Due.is("deliver", room.deliver(1, 0), 2);
        seal = line(line(seal, 1, 6, 1, 8), 2, 4, 1, 8);
        Due.is("sent after, delivered", room.count(12), seal);
        Due.is("deliver", room.deliver(1, 0), -1);
        seal = line(seal, 1, 7, 1, 8);
        Due.is("sent back", room.count(12), seal);
        Due.is("not back here", room.deliver(1, 10), 0);
        Due.is("sort", room.sort(1), 2);
        seal = line(seal, 1, 1, 1, 8);
        room.tick(3);
        seal = line(line(seal, 1, 2, 1, 9), 1, 3, 0, 11);
        Due.is("under way", room.count(12), seal);
        Due.is("back, both", room.deliver(0, 10), 2);
        seal = line(seal, 1, 5, 0, 11);
        Due.is("back", room.count(12), seal);
    }

    private static int line(int seal, int item, int what, int office, int clock) {
        return (33 * seal + item + 8 * what + 64 * office + clock) % 65521;
    }
}
