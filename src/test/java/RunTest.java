import java.math.BigInteger;
import java.util.ArrayList;
import java.util.Arrays;
import java.util.List;
import java.util.Random;

/** Promises 17 to 22 and 25: random programmes against a plain tree walker that tells ends by exceptions. */
public final class RunTest {
    private static final String BOOK = "office a 101 0 0;office b 202 50 0;office c 303 0 0;office d 404 0 0;"
        + "street s in a from 1 to 9 at 0 0 e walk 0;street t in b from 1 to 9 at 0 0 e walk 0;street u in c from 1 to 9 at 0 0 e walk 0;"
        + "street v in d from 1 to 9 at 0 0 e walk 0;service l letter most 9;service r register most 9;service p parcel most 9;"
        + "coach b a first 0 every 9 last 900 takes 5 holds 9;coach a b first 0 every 9 last 900 takes 5 holds 9;"
        + "coach a c first 3 every 100 last 800 takes 5 holds 9;coach c a first 0 every 9 last 900 takes 5 holds 9;"
        + "coach a b first 0 every 9 last 900 takes 3 holds 9;";
    private static final int[] GOALS = {0, 1, 2, 3};
    private static final int[] CODES = {101, 202, 303, 404};
    private static final String[] ROWS = {"truths", "bytes", "signs", "shorts", "ints", "longs", "floats", "doubles",
        "items", "letters", "parcels", "registers"};

    private static final class Node {
        String op;
        long value;
        Node[] kids;

        Node(String op, long value, Node... kids) {
            this.op = op;
            this.value = value;
            this.kids = kids;
        }
    }

    private static final class Row {
        int kind;
        Object places;
        int size;
    }

    /** 1 .. 9 a REFUSAL, 10 cut, 11 FULL, 12 stop. */
    private static final class End extends RuntimeException {
        private static final long serialVersionUID = 1;
        final int what;
        final long own;

        End(int what, long own) {
            super(null, null, false, false);
            this.what = what;
            this.own = own;
        }
    }

    /** A programme is fed in 50 calls at most; behind each of two runs 60 questions are asked. */
    private static final int MOST_SIGNS = 1200;
    private static final int QUESTIONS = 60;
    private static final int MOST_CALLS_OF_ONE = 180;

    private final Random random;
    private final StringBuilder text = new StringBuilder();
    private long[] r = new long[10];
    private int[] x = new int[4];
    private Row[] trays = new Row[12];
    private int steps, limit, allSteps, places, allPlaces, allRefusals, here, clock;
    private final List<Integer> shelf = new ArrayList<>();
    private int[] sorts, weights, goals, services;
    private int[] nextCoach = new int[4];
    private final List<List<Integer>> bags = new ArrayList<>();

    private RunTest(long seed) {
        random = new Random(seed);
    }

    public static void main(String[] args) {
        for (int seed = 0; seed < 4000; seed++) {
            new RunTest(seed).play();
        }
        Due.end("RunTest");
    }

    private Room room(int seedItems) {
        Random which = new Random(seedItems);
        Room room = new Room();
        Due.book(room, BOOK);
        String[] to = {"1 s 101", "1 t 202", "1 u 303", "1 v 404"};
        for (int i = 0; i < 8; i++) {
            int at = i < 4 ? 0 : which.nextInt(3);
            Due.accept(room, which.nextInt(3), 1 + which.nextInt(9), at, to[i < 4 ? i : which.nextInt(4)]);
        }
        room.tick(which.nextInt(50));
        return room;
    }

    private void play() {
        int seedItems = random.nextInt(1000);
        Room room = room(seedItems);
        here = random.nextInt(5) == 0 ? 1 : 0;
        look(room, room(seedItems));
        while (room.callsLeft() > MOST_CALLS_OF_ONE) {
            text.setLength(0);
            List<Node> programme = random.nextBoolean() ? rows() : new ArrayList<>();
            programme.addAll(statements(0, 2 + random.nextInt(10)));
            for (Node node : programme) {
                print(node);
            }
            if (text.length() > MOST_SIGNS) {
                continue;
            }
            Due.is("programme " + text, Due.programme(room, text.toString()), 0);
            for (int again = 0; again < 2; again++) {
                int n = random.nextInt(4) == 0 ? 1 + random.nextInt(15) : 400;
                int due = perform(programme, n);
                Due.is("run " + n + " of " + text, room.run(here, n), due);
                compare(room);
            }
        }
    }

    /** What the programmes may ask for; the twin is sorted, so that its bags tell the first coaches. */
    private void look(Room room, Room twin) {
        int size = room.count(5);
        sorts = new int[size];
        weights = new int[size];
        goals = new int[size];
        services = new int[size];
        int[] sortOf = {0, 2, 1};
        for (int i = 0; i < size; i++) {
            services[i] = room.item(i, 0);
            sorts[i] = sortOf[services[i]];
            weights[i] = room.item(i, 1);
            goals[i] = GOALS[room.item(i, 3)];
        }
        clock = room.count(4);
        for (int k = 0; room.shelf(here, k) >= 0; k++) {
            shelf.add(room.shelf(here, k));
        }
        for (int i = 0; i < 5; i++) {
            bags.add(new ArrayList<>());
        }
        for (int goal = 0; goal < 4; goal++) {
            nextCoach[goal] = -1;
            for (int i = 0; i < 5 && twin.way(here, goal) >= 0; i++) {
                nextCoach[goal] = firstCoach(twin.way(here, goal), goal, nextCoach[goal], i);
            }
        }
    }

    /** The least coach from here with which one can be at the goal as early as the WAY is. */
    private int firstCoach(int end, int goal, int known, int coach) {
        int[] from = {1, 0, 0, 2, 0};
        int[] to = {0, 1, 2, 0, 1};
        int[] takes = {5, 5, 5, 5, 3};
        if (known >= 0 || from[coach] != here) {
            return known;
        }
        int[] comes = {999999, 999999, 999999, 999999};
        comes[to[coach]] = timeBehind(coach, clock) + takes[coach];
        for (int round = 0; round < 5; round++) {
            for (int i = 0; i < 5; i++) {
                if (comes[from[i]] < 999999) {
                    comes[to[i]] = Math.min(comes[to[i]], timeBehind(i, comes[from[i]]) + takes[i]);
                }
            }
        }
        return comes[goal] == end ? coach : known;
    }

    private static int timeBehind(int coach, int time) {
        int first = coach == 2 ? 3 : 0;
        int every = coach == 2 ? 100 : 9;
        int last = coach == 2 ? 800 : 900;
        for (int t = time + 1;; t++) {
            int minute = t % 1440;
            if (minute >= first && minute <= last && (minute - first) % every == 0) {
                return t;
            }
        }
    }

    /** Any questions, twice as many of what is sure to be there. */
    private void compare(Room room) {
        Due.is("steps of " + text, room.count(14), steps);
        Due.is("all steps of " + text, room.count(13), allSteps);
        for (int i = 2; i < QUESTIONS; i++) {
            int which = random.nextInt(9);
            int k = random.nextInt(10);
            int t = random.nextInt(random.nextInt(3) > 0 ? 4 : 12);
            if (which < 2) {
                Due.is("r" + k + " of " + text, room.number(k), r[k]);
            } else if (which < 3) {
                Due.is("x" + k % 4 + " of " + text, room.held(k % 4), x[k % 4]);
            } else if (which < 7) {
                compareTray(room, t);
            } else if (which < 8) {
                Due.is("shelf of " + text, room.shelf(here, k), k < shelf.size() ? shelf.get(k) : -1);
            } else {
                List<Integer> bag = bags.get(k % 5);
                int place = random.nextInt(bag.size() + 1);
                Due.is("bag of " + text, room.bag(k % 5, place), place < bag.size() ? bag.get(place) : -1);
            }
        }
    }

    private void compareTray(Room room, int t) {
        Row row = trays[t];
        int same = t;
        for (int k = t; k >= 0; k--) {
            same = trays[k] == row ? k : same;
        }
        if (row != null && row.size > 0 && random.nextInt(5) > 1) {
            int k = random.nextInt(row.size);
            Due.is("place of " + text, room.place(t, k), told(row, k));
            return;
        }
        int what = random.nextInt(3);
        int due = row == null ? what == 0 ? 0 : -1 : what == 0 ? row.kind : what == 1 ? row.size : same;
        Due.is("tray(" + t + ", " + what + ") of " + text, room.tray(t, what), due);
    }

    // ---- making programmes ----

    private List<Node> statements(int depth, int many) {
        List<Node> row = new ArrayList<>();
        for (int i = 0; i < many; i++) {
            row.add(statement(depth));
        }
        return row;
    }

    /** Rows with something in them, so that less is refused at once. */
    private List<Node> rows() {
        List<Node> row = new ArrayList<>();
        int ofItems = random.nextInt(2) * 8;
        for (int t = 0; t < 4; t++) {
            int kind = ofItems > 0 ? 9 + random.nextInt(4) : 1 + random.nextInt(random.nextBoolean() ? 8 : 2);
            Node tray = new Node("number", t);
            row.add(new Node("make", kind, tray, new Node("number", 1 + random.nextInt(5))));
            for (int i = random.nextInt(3); i > 0; i--) {
                Node place = new Node("number", random.nextInt(4));
                Node lay = new Node("lay", 0, tray, place, item(0));
                Node put = new Node("put", 0, tray, place, new Node("number", random.nextInt(1000000000)));
                Node block = new Node("block", 0, ofItems > 0 ? lay : put);
                row.add(new Node("try", 0, block, null, new Node("on", 0, new Node("block", 0))));
            }
        }
        for (int i = random.nextInt(3); i > 0; i--) {
            row.add(new Node("slide", 0, tray(), small(), tray(), small(), small()));
        }
        return row;
    }

    private Node block(int depth) {
        return new Node("block", 0, statements(depth + 1, random.nextInt(4)).toArray(new Node[0]));
    }

    private Node statement(int depth) {
        int what = random.nextInt(depth > 3 ? 13 : 17);
        switch (what) {
            case 0: case 1: return new Node("set", random.nextInt(10), e(2));
            case 2: case 3: return new Node("hold", random.nextInt(4), item(2));
            case 4: case 5: return new Node("make", 1 + random.nextInt(12), tray(), small());
            case 6: return random.nextInt(3) > 0 ? new Node("same", 0, tray(), tray()) : new Node("drop", 0, tray());
            case 7: case 8: return new Node("put", 0, tray(), small(), e(2));
            case 9: return new Node("lay", 0, tray(), small(), item(2));
            case 10: return new Node("slide", 0, tray(), small(), tray(), small(), small());
            case 11: return new Node("bag", 0, item(1), small());
            case 12: return random.nextInt(3) > 0 ? new Node("refuse", 0, e(1)) : new Node("stop", 0);
            case 13: return random.nextBoolean() ? new Node("if", 0, e(1), block(depth)) : new Node("if", 0, e(1), block(depth), block(depth));
            case 14: return new Node("while", 0, e(1), block(depth));
            default: return attempt(depth);
        }
    }

    private Node attempt(int depth) {
        List<Node> kids = new ArrayList<>();
        kids.add(block(depth));
        kids.add(random.nextBoolean() ? block(depth) : null);
        for (int i = random.nextInt(3); i > 0; i--) {
            kids.add(new Node("on", random.nextInt(10) * random.nextInt(2), block(depth)));
        }
        return new Node("try", 0, kids.toArray(new Node[0]));
    }

    private Node tray() {
        return random.nextInt(12) > 0 ? new Node("number", random.nextInt(4)) : unit(1);
    }

    private Node small() {
        return random.nextInt(8) > 0 ? new Node("number", random.nextInt(5)) : e(1);
    }

    private Node e(int depth) {
        if (depth == 0 || random.nextInt(3) == 0) {
            return unit(depth);
        }
        String[] signs = {"+", "-", "*", "/", "%", "<", "="};
        return new Node(signs[random.nextInt(7)], 0, e(depth - 1), e(depth - 1));
    }

    private Node unit(int depth) {
        int what = random.nextInt(depth == 0 ? 5 : 14);
        switch (what) {
            case 0: return new Node("number", random.nextInt(random.nextBoolean() ? 4 : 1000000000));
            case 1: case 2: return new Node("r", random.nextInt(10));
            case 3: return new Node("many", 0);
            case 4: return new Node(random.nextBoolean() ? "here" : "time", 0);
            case 5: return new Node("minus", 0, unit(depth - 1));
            case 6: return new Node("len", 0, tray());
            case 7: return new Node("sort", 0, tray());
            case 8: case 9: return new Node("at", 0, tray(), small());
            default: String[] asked = {"code", "weight", "kind", "next", "is"};
                return new Node(asked[random.nextInt(5)], 0, item(depth - 1));
        }
    }

    private Node item(int depth) {
        int what = random.nextInt(depth == 0 ? 4 : 8);
        switch (what) {
            case 0: case 1: return new Node("x", random.nextInt(4));
            case 2: return random.nextInt(3) == 0 ? new Node("none", 0) : new Node("shelf", 0, new Node("number", random.nextInt(3)));
            case 3: return new Node("shelf", 0, new Node("number", random.nextInt(9)));
            case 4: case 5: return new Node("item", 0, tray(), small());
            case 6: return new Node("shelf", 0, unit(depth - 1));
            default: return new Node("of", random.nextInt(3), item(depth - 1));
        }
    }

    // ---- printing them ----

    private void print(String before, Node node) {
        text.append(before);
        print(node);
    }

    private void printUnit(String before, Node node) {
        text.append(before);
        boolean isSum = "+-*/%<=".contains(node.op);
        text.append(isSum ? "(" : "");
        print(node);
        text.append(isSum ? ")" : "");
    }

    private void print(Node n) {
        Node[] k = n.kids;
        switch (n.op) {
            case "block": text.append("{"); for (Node s : k) { print(s); } text.append("}"); break;
            case "set": print("r" + n.value + "=", k[0]); text.append(";"); break;
            case "hold": print("x" + n.value + "=", k[0]); text.append(";\n"); break;
            case "make": printUnit("make @", k[0]); text.append(" ").append(ROWS[(int) n.value - 1]); print(" ", k[1]); text.append(";"); break;
            case "drop": printUnit("drop @", k[0]); text.append(";"); break;
            case "same": printUnit("same@", k[0]); printUnit("@", k[1]); text.append(";"); break;
            case "put": printUnit("put@", k[0]); print("[", k[1]); print("]", k[2]); text.append(";"); break;
            case "lay": printUnit("lay@", k[0]); print("[", k[1]); print("]", k[2]); text.append(";"); break;
            case "slide": printUnit("slide@", k[0]); print(" ", k[1]); printUnit(",@", k[2]); print(" ", k[3]); print(",", k[4]); text.append(";"); break;
            case "bag": print("bag ", k[0]); print(",", k[1]); text.append(";"); break;
            case "refuse": print("refuse ", k[0]); text.append(";"); break;
            case "stop": text.append("stop;"); break;
            case "if": print("if ", k[0]); print(k[1]); if (k.length > 2) { print("else", k[2]); } break;
            case "while": print("while ", k[0]); print(k[1]); break;
            case "try": printTry(k); break;
            case "number": text.append(n.value); break;
            case "r": case "x": text.append(n.op).append(n.value); break;
            case "minus": printUnit("-", k[0]); break;
            case "len": case "sort": printUnit(n.op + "@", k[0]); break;
            case "at": case "item": printUnit(n.op + "@", k[0]); print("[", k[1]); text.append("]"); break;
            case "code": case "weight": case "kind": case "next": case "is": print(n.op + " ", k[0]); break;
            case "shelf": printUnit("shelf ", k[0]); break;
            case "of": String[] sort = {"letter ", "parcel ", "register "}; print(sort[(int) n.value], k[0]); break;
            case "many": case "here": case "time": case "none": text.append(n.op); break;
            default: printUnit("", k[0]); printUnit(n.op, k[1]); break;
        }
    }

    private void printTry(Node[] k) {
        print("try", k[0]);
        for (int i = 2; i < k.length; i++) {
            print("on " + k[i].value, k[i].kids[0]);
        }
        if (k[1] != null) {
            print("always", k[1]);
        }
    }

    // ---- doing them ----

    private int perform(List<Node> programme, int n) {
        r = new long[10];
        x = new int[] {-1, -1, -1, -1};
        trays = new Row[12];
        steps = 0;
        places = 0;
        limit = n;
        try {
            for (Node node : programme) {
                run(node);
            }
        } catch (End end) {
            return end.what == 12 ? 0 : end.what;
        }
        return 0;
    }

    private void step() {
        if (steps == limit || allSteps == 200000) {
            throw new End(10, 0);
        }
        steps++;
        allSteps++;
    }

    private End refusal(int what, long own) {
        if (allRefusals == 4000) {
            return new End(11, 0);
        }
        allRefusals++;
        return new End(what, own);
    }

    private void check(boolean isWrong, int what) {
        if (isWrong) {
            throw refusal(what, 0);
        }
    }

    private void run(Node n) {
        Node[] k = n.kids;
        if (!n.op.equals("block") && !n.op.equals("while")) {
            step();
        }
        switch (n.op) {
            case "block": for (Node s : k) { run(s); } break;
            case "set": r[(int) n.value] = value(k[0]); break;
            case "hold": x[(int) n.value] = itemOf(k[0]); break;
            case "make": make(trayOf(k[0]), (int) n.value, value(k[1])); break;
            case "drop": trays[trayOf(k[0])] = null; break;
            case "same": int a = trayOf(k[0]); int b = trayOf(k[1]); trays[a] = trays[b]; break;
            case "put": put(trayOf(k[0]), value(k[1]), value(k[2])); break;
            case "lay": lay(trayOf(k[0]), value(k[1]), itemOf(k[2])); break;
            case "slide": slide(trayOf(k[0]), value(k[1]), trayOf(k[2]), value(k[3]), value(k[4])); break;
            case "bag": bag(itemOf(k[0]), value(k[1])); break;
            case "refuse": throw refusal(9, value(k[0]));
            case "stop": throw new End(12, 0);
            case "if": if (value(k[0]) != 0) { run(k[1]); } else if (k.length > 2) { run(k[2]); } break;
            case "while": step(); while (value(k[0]) != 0) { run(k[1]); step(); } break;
            default: runTry(k); break;
        }
    }

    private void runTry(Node[] k) {
        End pending = null;
        try {
            runTaken(k);
        } catch (End end) {
            pending = end;
        }
        if (k[1] != null && (pending == null || pending.what != 10 && pending.what != 11)) {
            run(k[1]);
        }
        if (pending != null) {
            throw pending;
        }
    }

    private void runTaken(Node[] k) {
        try {
            run(k[0]);
        } catch (End end) {
            for (int i = 2; i < k.length && end.what <= 9; i++) {
                if (k[i].value == 0 || k[i].value == end.what) {
                    r[9] = end.what == 9 ? end.own : end.what;
                    run(k[i].kids[0]);
                    return;
                }
            }
            throw end;
        }
    }

    private int trayOf(Node n) {
        long t = value(n);
        check(t < 0 || t > 11, 3);
        return (int) t;
    }

    private void make(int t, int kind, long size) {
        check(size < 0, 4);
        if (size > 2000 - places || size > 200000 - allPlaces) {
            throw new End(11, 0);
        }
        places += (int) size;
        allPlaces += (int) size;
        Row row = new Row();
        row.kind = kind;
        row.size = (int) size;
        switch (kind) {
            case 1: row.places = new boolean[row.size]; break;
            case 2: row.places = new byte[row.size]; break;
            case 3: row.places = new char[row.size]; break;
            case 4: row.places = new short[row.size]; break;
            case 5: row.places = new int[row.size]; break;
            case 6: row.places = new long[row.size]; break;
            case 7: row.places = new float[row.size]; break;
            case 8: row.places = new double[row.size]; break;
            default: Integer[] items = new Integer[row.size]; Arrays.fill(items, -1); row.places = items; break;
        }
        trays[t] = row;
    }

    private long told(Row row, int k) {
        switch (row.kind) {
            case 1: return ((boolean[]) row.places)[k] ? 1 : 0;
            case 2: return ((byte[]) row.places)[k];
            case 3: return ((char[]) row.places)[k];
            case 4: return ((short[]) row.places)[k];
            case 5: return ((int[]) row.places)[k];
            case 6: return ((long[]) row.places)[k];
            case 7: return (long) ((float[]) row.places)[k];
            case 8: return (long) ((double[]) row.places)[k];
            default: return ((Integer[]) row.places)[k];
        }
    }

    private Row rowOf(int t, long k, boolean ofItems) {
        Row row = trays[t];
        check(row == null, 1);
        check(row.kind > 8 != ofItems, 2);
        check(k < 0 || k >= row.size, 3);
        return row;
    }

    private void put(int t, long place, long v) {
        Row row = rowOf(t, place, false);
        int k = (int) place;
        switch (row.kind) {
            case 1: ((boolean[]) row.places)[k] = v != 0; break;
            case 2: ((byte[]) row.places)[k] = (byte) v; break;
            case 3: ((char[]) row.places)[k] = (char) v; break;
            case 4: ((short[]) row.places)[k] = (short) v; break;
            case 5: ((int[]) row.places)[k] = (int) v; break;
            case 6: ((long[]) row.places)[k] = v; break;
            case 7: ((float[]) row.places)[k] = v; break;
            default: ((double[]) row.places)[k] = v; break;
        }
    }

    private boolean hasSort(int item, int sort) {
        return item < 0 || sorts[item] == sort || sort == 0 && sorts[item] == 2;
    }

    private void lay(int t, long place, int item) {
        Row row = rowOf(t, place, true);
        check(row.kind > 9 && !hasSort(item, row.kind - 10), 5);
        ((Integer[]) row.places)[(int) place] = item;
    }

    private void slide(int t, long from, int u, long to, long many) {
        Row a = trays[t];
        Row b = trays[u];
        check(a == null || b == null, 1);
        check(!(a.kind > 8 && b.kind > 8) && a.kind != b.kind, 2);
        check(from < 0 || to < 0 || many < 0, 3);
        BigInteger n = BigInteger.valueOf(many);
        check(BigInteger.valueOf(from).add(n).compareTo(BigInteger.valueOf(a.size)) > 0, 3);
        check(BigInteger.valueOf(to).add(n).compareTo(BigInteger.valueOf(b.size)) > 0, 3);
        if (a.kind < 9) {
            System.arraycopy(a.places, (int) from, b.places, (int) to, (int) many);
            return;
        }
        Integer[] taken = ((Integer[]) a.places).clone();
        for (int i = 0; i < many; i++) {
            check(b.kind > 9 && !hasSort(taken[(int) from + i], b.kind - 10), 5);
            ((Integer[]) b.places)[(int) to + i] = taken[(int) from + i];
        }
    }

    private void bag(int item, long coach) {
        int[] from = {1, 0, 0, 2, 0};
        check(item < 0, 1);
        check(coach < 0 || coach > 4, 3);
        check(!shelf.contains(item), 7);
        check(from[(int) coach] != here, 8);
        shelf.remove((Integer) item);
        bags.get((int) coach).add(item);
    }

    private int itemOf(Node n) {
        Node[] k = n.kids;
        switch (n.op) {
            case "x": return x[(int) n.value];
            case "none": return -1;
            case "shelf": long at = value(k[0]); check(at < 0 || at >= shelf.size(), 3); return shelf.get((int) at);
            case "item": int t = trayOf(k[0]); long place = value(k[1]); return ((Integer[]) rowOf(t, place, true).places)[(int) place];
            default: int item = itemOf(k[0]); check(!hasSort(item, (int) n.value), 2); return item;
        }
    }

    private long value(Node n) {
        Node[] k = n.kids;
        switch (n.op) {
            case "number": return n.value;
            case "r": return r[(int) n.value];
            case "many": return shelf.size();
            case "here": return here;
            case "time": return clock;
            case "minus": return -value(k[0]);
            case "len": int t = trayOf(k[0]); check(trays[t] == null, 1); return trays[t].size;
            case "sort": Row row = trays[trayOf(k[0])]; return row == null ? 0 : row.kind;
            case "at": int u = trayOf(k[0]); long at = value(k[1]); return told(rowOf(u, at, false), (int) at);
            case "is": return itemOf(k[0]) < 0 ? 0 : 1;
            case "code": case "weight": case "kind": case "next": return ofItem(n.op, itemOf(k[0]));
            default: return calculated(n.op, value(k[0]), value(k[1]));
        }
    }

    private long ofItem(String op, int item) {
        check(item < 0, 1);
        if (op.equals("next")) {
            step();
            return goals[item] == here ? -1 : nextCoach[goals[item]];
        }
        return op.equals("code") ? CODES[goals[item]] : op.equals("weight") ? weights[item] : services[item];
    }

    private long calculated(String op, long a, long b) {
        switch (op) {
            case "+": return a + b;
            case "-": return a - b;
            case "*": return a * b;
            case "<": return a < b ? 1 : 0;
            case "=": return a == b ? 1 : 0;
            default: check(b == 0, 6); return op.equals("/") ? a / b : a % b;
        }
    }
}
