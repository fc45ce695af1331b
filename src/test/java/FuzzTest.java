import java.util.NoSuchElementException;
import java.util.Random;

/** Any calls with any arguments: none throws but what the document says, and a refused call changes nothing. */
public final class FuzzTest {
    private static final String[] BOOK_WORDS = {"office", "short", "street", "service", "coach", "a", "b", "c", "st", "in", "odd", "even", "from",
        "to", "at", "e", "n", "w", "s", "walk", "letter", "parcel", "register", "most", "base", "each", "over", "zone", "far", "up", "least",
        "cut", "first", "every", "last", "takes", "holds", ";", ";", "1", "2", "9", "20", "999", "1439", "4000", "0", "x", ".", "A"};
    private static final String[] RUN_WORDS = {"r0", "r1", "r9", "x0", "x3", "make", "drop", "same", "put", "lay", "slide", "bag", "refuse", "stop",
        "if", "else", "while", "try", "on", "always", "len", "sort", "at", "code", "weight", "kind", "next", "is", "many", "here", "time",
        "none", "shelf", "item", "letter", "parcel", "register", "truths", "longs", "items", "registers", "0", "1", "9", "11", "12", ";", ";",
        ",", "=", "<", "+", "-", "*", "/", "%", "(", ")", "{", "}", "[", "]", "@", "@", "{}", "@0", "1;", "r0=", "{r0=r0+1;}"};
    private static final String[] ADDRESS_WORDS = {"1", "2a", "12", "999", "101", "st", "s", "mill", "lane", "high", "Street", "aster", "birch",
        "ASTRE", "303", "hill", "dahlia", ",", "-", "0", "1000"};
    private static final int[] EDGES = {Integer.MIN_VALUE, -2, -1, 0, 1, 2, 3, 4, 5, 7, 9, 10, 11, 12, 15, 16, 17, 18, 26, 27, 32, 33, 39, 40, 54, 60,
        100, 135, 199, 200, 400, 1440, 3000, 3001, 20000, 20001, 26999, 27000, Integer.MAX_VALUE};

    /** A book of 61 words is fed in 24 calls at most. */
    private static final int MOST_CALLS_OF_ONE = 40;

    private final Random random;
    private final Room room = new Room();

    private FuzzTest(int seed) {
        random = new Random(seed);
    }

    public static void main(String[] args) {
        for (int seed = 0; seed < 4000; seed++) {
            FuzzTest fuzz = new FuzzTest(seed);
            if (seed % 4 > 0) {
                Due.book(fuzz.room, Due.BOOK);
            }
            while (fuzz.room.callsLeft() > MOST_CALLS_OF_ONE) {
                fuzz.call();
            }
        }
        Due.end("FuzzTest");
    }

    private int any() {
        return random.nextInt(3) > 0 ? random.nextInt(6) : EDGES[random.nextInt(EDGES.length)];
    }

    private String soup(String[] words, int most) {
        StringBuilder text = new StringBuilder();
        for (int i = random.nextInt(most); i >= 0; i--) {
            text.append(words[random.nextInt(words.length)]).append(random.nextInt(4) == 0 ? "" : " ");
        }
        return text.toString();
    }

    private void call() {
        int what = random.nextInt(34);
        int seen = 0;
        int due = 0;
        try {
            due = allowed(what);
            doCall(what);
        } catch (IllegalArgumentException e) {
            seen = e.getClass() == IllegalArgumentException.class ? Due.ILLEGAL_ARGUMENT : -1;
        } catch (NoSuchElementException e) {
            seen = e.getClass() == NoSuchElementException.class ? Due.NO_ELEMENT : -1;
        } catch (IndexOutOfBoundsException e) {
            seen = e.getClass() == IndexOutOfBoundsException.class ? Due.OUT_OF_BOUNDS : -1;
        } catch (RuntimeException e) {
            e.printStackTrace(System.out);
            seen = -1;
        }
        Due.is("thrown by call " + what, seen == 0 || seen == due ? 1 : 0, 1);
    }

    private static int allowed(int what) {
        int[] thrown = {0, 0, 0, 0, 1, 1, 1, 2, 0, 0, 0, 0, 0, 0, 0, 0, 0, 3, 3, 3, 2, 2, 0, 0, 0};
        return what < thrown.length ? thrown[what] : what == 25 ? Due.ILLEGAL_ARGUMENT : 0;
    }

    private long doCall(int what) {
        switch (what) {
            case 0: return room.feed(random.nextLong(), random.nextLong(), random.nextLong());
            case 1: return room.book();
            case 2: return room.find();
            case 3: return room.found(any());
            case 4: return room.price(any(), any(), any(), any());
            case 5: return room.way(any(), any());
            case 6: return room.accept(any(), any(), any());
            case 7: return room.bar(any(), any());
            case 8: return room.read();
            case 9: return room.mended();
            case 10: return room.tick(any());
            case 11: return room.sort(any());
            case 12: return room.deliver(any(), any());
            case 13: return room.moved(any(), any()) ? 1 : 0;
            case 14: return room.gone(any(), any()) ? 1 : 0;
            case 15: return room.programme();
            case 16: return room.run(any(), any());
            case 17: return room.number(any());
            case 18: return room.held(any());
            case 19: return room.tray(any(), any());
            case 20: return room.place(any(), any());
            case 21: return room.item(any(), any());
            case 22: return room.shelf(any(), any());
            case 23: return room.bag(any(), any());
            case 24: return room.count(any());
            case 25: case 26: case 27: return accepts(what);
            case 28: return Due.find(room, soup(ADDRESS_WORDS, 8));
            case 29: return random.nextInt(9) == 0 ? Due.book(room, soup(BOOK_WORDS, 60)) : Due.programme(room, soup(RUN_WORDS, 60));
            case 30: return Due.moved(room, any(), any(), soup(ADDRESS_WORDS, 6)) ? 1 : 0;
            case 31: return Due.programme(room, "while many{try{x0=shelf 0;bag x0,next x0;}on 0{r0=r0+1;if r0=3{stop;}}}");
            case 32: return Due.programme(room, "r0=" + soup(RUN_WORDS, 8) + ";");
            default: return room.run(random.nextInt(4), 1 + random.nextInt(300));
        }
    }

    private long accepts(int what) {
        String[] good = {"1 mill lane 101", "5 station rd birch", "120 church way 303", "9 hill dahlia"};
        Due.feed(room, random.nextInt(3) > 0 ? good[random.nextInt(4)] : soup(ADDRESS_WORDS, 6));
        if (what == 25) {
            return room.accept(any(), any(), any());
        }
        return room.count(2) == 4 && room.count(0) == 4 ? room.accept(random.nextInt(4), 1, random.nextInt(4)) : 0;
    }
}
