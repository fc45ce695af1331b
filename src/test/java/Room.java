/** A PostRoom that the tests use for at most 512 calls: the document promises nothing of later ones. */
final class Room {
    static final int MOST_CALLS = 512;

    private final PostRoom room = new PostRoom();
    private int calls = 0;

    private PostRoom called() {
        calls++;
        if (calls > MOST_CALLS) {
            throw new AssertionError("a test uses one object for more than 512 calls");
        }
        return room;
    }

    int callsLeft() {
        return MOST_CALLS - calls;
    }

    int feed(long a, long b, long c) {
        return called().feed(a, b, c);
    }

    int book() {
        return called().book();
    }

    int find() {
        return called().find();
    }

    int found(int what) {
        return called().found(what);
    }

    int price(int service, int weight, int from, int to) {
        return called().price(service, weight, from, to);
    }

    int way(int from, int to) {
        return called().way(from, to);
    }

    int accept(int service, int weight, int from) {
        return called().accept(service, weight, from);
    }

    int bar(int item, int i) {
        return called().bar(item, i);
    }

    int read() {
        return called().read();
    }

    int mended() {
        return called().mended();
    }

    int tick(int n) {
        return called().tick(n);
    }

    int sort(int office) {
        return called().sort(office);
    }

    int deliver(int office, int walk) {
        return called().deliver(office, walk);
    }

    boolean moved(int piece, int door) {
        return called().moved(piece, door);
    }

    boolean gone(int piece, int door) {
        return called().gone(piece, door);
    }

    int programme() {
        return called().programme();
    }

    int run(int office, int n) {
        return called().run(office, n);
    }

    long number(int k) {
        return called().number(k);
    }

    int held(int k) {
        return called().held(k);
    }

    int tray(int t, int what) {
        return called().tray(t, what);
    }

    long place(int t, int k) {
        return called().place(t, k);
    }

    int item(int i, int what) {
        return called().item(i, what);
    }

    int shelf(int office, int k) {
        return called().shelf(office, k);
    }

    int bag(int coach, int k) {
        return called().bag(coach, k);
    }

    int count(int what) {
        return called().count(what);
    }
}
