/** A room in which there is something of everything, and all that can be asked of it. */
final class World {
    static final String BOOK = "office a 101 10 10;office b 202 40 10;short st street;"
        + "street mill street in a from 1 to 40 at 5 5 e walk 0;street high road in b from 1 to 60 at 38 8 w walk 0;"
        + "service plain letter most 100 base 20;service sure register most 500 base 60;"
        + "coach a b first 10 every 30 last 1439 takes 7 holds 2;coach b a first 5 every 60 last 1400 takes 900 holds 20;";
    static final String PROGRAMME = "r3=r3+77;r9=5;x1=shelf 0;make@2 longs 4;put@2[1]9;same@5@2;make@7 items 2;lay@7[1]x1;r4=len@2;";
    static final int RUN_STEPS = 9;
    static final int ITEMS = 5;

    private World() {
    }

    /** ITEM 0 is in a COACH, 1 delivered, 2 back, 3 in a BAG, 4 on a SHELF and sent after once. */
    static Room make() {
        Room room = Due.roomOf(BOOK);
        Due.is("accept 0", Due.accept(room, 1, 5, 0, "3 high road 202"), 0);
        Due.is("accept 1", Due.accept(room, 1, 5, 0, "1 mill st 101"), 1);
        Due.is("accept 2", Due.accept(room, 1, 5, 0, "2 mill st 101"), 2);
        Due.is("gone", room.gone(0, 54), true);
        Due.is("one is delivered", room.deliver(0, 0), 20);
        Due.is("one is back", room.deliver(0, 10), 1);
        Due.is("one is bagged", room.sort(0), 1);
        Due.is("it goes", room.tick(10), 10);
        Due.is("accept 3", Due.accept(room, 1, 7, 0, "4 high road 202"), 3);
        Due.is("one is bagged", room.sort(0), 1);
        Due.is("accept 4", Due.accept(room, 0, 9, 0, "3 mill st 101"), 4);
        Due.is("moved", Due.moved(room, 0, 81, "5 high road 202"), true);
        Due.is("one is sent after", room.deliver(0, 0), -1);
        Due.is("find", Due.find(room, "6 hgih road 202"), 1);
        Due.is("read", Due.read(room, "?00000000000000000000000000000000"), -2);
        Due.is("programme", Due.programme(room, PROGRAMME), 0);
        Due.is("run", room.run(0, 100), 0);
        return room;
    }

    /** All answers but how many signs are on the TAPE. */
    static String look(Room room) {
        StringBuilder seen = new StringBuilder();
        for (int what = 0; what <= 17; what++) {
            seen.append(what == 16 ? 0 : room.count(what)).append(' ');
        }
        seen.append("found ").append(room.found(0)).append(' ').append(room.found(1)).append(" mended ").append(room.mended());
        for (int k = 0; k < 10; k++) {
            seen.append(k < 4 ? " held " + room.held(k) : "").append(" number ").append(room.number(k));
        }
        lookAtTrays(room, seen);
        for (int i = 0; i < room.count(5); i++) {
            seen.append("\nitem ").append(i);
            for (int what = 0; what <= 10; what++) {
                seen.append(' ').append(room.item(i, what));
            }
        }
        lookAround(room, seen);
        return seen.toString();
    }

    private static void lookAtTrays(Room room, StringBuilder seen) {
        for (int t = 0; t < 12; t++) {
            int size = room.tray(t, 1);
            seen.append("\ntray ").append(room.tray(t, 0)).append(' ').append(size).append(' ').append(room.tray(t, 2));
            for (int k = 0; k < size; k++) {
                seen.append(' ').append(room.place(t, k));
            }
        }
    }

    private static void lookAround(Room room, StringBuilder seen) {
        for (int office = 0; office < room.count(0); office++) {
            seen.append("\nshelf");
            for (int k = 0; k == 0 || room.shelf(office, k - 1) >= 0; k++) {
                seen.append(' ').append(room.shelf(office, k));
            }
            for (int to = 0; to < room.count(0); to++) {
                seen.append(" way ").append(room.way(office, to)).append(" price ").append(room.price(0, 9, office, to));
            }
        }
        for (int coach = 0; coach < room.count(3); coach++) {
            seen.append("\nbag ").append(room.bag(coach, 0)).append(' ').append(room.bag(coach, 1));
        }
    }
}
