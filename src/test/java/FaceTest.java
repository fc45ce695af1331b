import java.lang.reflect.Constructor;
import java.lang.reflect.Field;
import java.lang.reflect.Method;
import java.lang.reflect.Modifier;
import java.util.Arrays;
import java.util.TreeSet;

/** The public face, and promises 1 and 2: a new object, feed. */
public final class FaceTest {
    private static final String[] FACE = {
        "int feed(long,long,long)", "int book()", "int find()", "int found(int)",
        "int price(int,int,int,int) IllegalArgumentException", "int way(int,int) IllegalArgumentException",
        "int accept(int,int,int) IllegalArgumentException", "int bar(int,int) NoSuchElementException",
        "int read()", "int mended()", "int tick(int)", "int sort(int)", "int deliver(int,int)",
        "boolean moved(int,int)", "boolean gone(int,int)", "int programme()", "int run(int,int)",
        "long number(int) IndexOutOfBoundsException", "int held(int) IndexOutOfBoundsException",
        "int tray(int,int) IndexOutOfBoundsException", "long place(int,int) NoSuchElementException",
        "int item(int,int) NoSuchElementException", "int shelf(int,int)", "int bag(int,int)", "int count(int)"};

    public static void main(String[] args) {
        face();
        newObject();
        feed();
        Due.end("FaceTest");
    }

    private static void face() {
        TreeSet<String> seen = new TreeSet<>();
        TreeSet<String> names = new TreeSet<>();
        for (Method method : PostRoom.class.getDeclaredMethods()) {
            if (Modifier.isPublic(method.getModifiers())) {
                seen.add(told(method));
                names.add(method.getName());
            }
        }
        TreeSet<String> due = new TreeSet<>(Arrays.asList(FACE));
        Due.is("face " + seen, seen.equals(due) ? 1 : 0, 1);
        for (Method method : PostRoom.class.getDeclaredMethods()) {
            boolean isPublic = Modifier.isPublic(method.getModifiers());
            Due.is("private " + method.getName(), isPublic || Modifier.isPrivate(method.getModifiers()) ? 1 : 0, 1);
            Due.is("name of " + method.getName(), !isPublic && names.contains(method.getName()) ? 1 : 0, 0);
        }
        int constants = 0;
        for (Field field : PostRoom.class.getDeclaredFields()) {
            boolean isPublic = Modifier.isPublic(field.getModifiers());
            Due.is("field " + field.getName(), isPublic || Modifier.isPrivate(field.getModifiers()) ? 1 : 0, 1);
            constants += isPublic ? 1 : 0;
        }
        Due.is("constants", constants, 1);
        Constructor<?>[] makers = PostRoom.class.getDeclaredConstructors();
        Due.is("constructors", makers.length, 1);
        Due.is("constructor's parameters", makers[0].getParameterCount(), 0);
        Due.is("public final", PostRoom.class.getModifiers(), Modifier.PUBLIC | Modifier.FINAL);
        Due.is("NONE", PostRoom.NONE, -1);
    }

    private static String told(Method method) {
        StringBuilder text = new StringBuilder(method.getReturnType() + " " + method.getName() + "(");
        for (int i = 0; i < method.getParameterCount(); i++) {
            text.append(i == 0 ? "" : ",").append(method.getParameterTypes()[i]);
        }
        text.append(")");
        for (Class<?> thrown : method.getExceptionTypes()) {
            text.append(" ").append(thrown.getSimpleName());
        }
        return text.toString();
    }

    private static void newObject() {
        PostRoom room = new PostRoom();
        int[] counts = {0, 0, 0, 0, 0, 0, 0, 0, 0, 0, 0, 0, 7, 0, 0, 0, 0, 0};
        for (int i = 0; i < counts.length; i++) {
            Due.is("new count(" + i + ")", room.count(i), counts[i]);
        }
        Due.is("new count(18)", room.count(18), -1);
        Due.is("new count(-1)", room.count(-1), -1);
        Due.is("new found(0)", room.found(0), -1);
        Due.is("new found(1)", room.found(1), -1);
        Due.is("new mended()", room.mended(), -1);
        Due.is("new find()", room.find(), -1);
        Due.is("new read()", room.read(), -3);
        Due.is("new sort(0)", room.sort(0), -1);
        Due.is("new deliver(0, 0)", room.deliver(0, 0), -2);
        Due.is("new run(0, 1)", room.run(0, 1), -1);
        Due.is("new shelf(0, 0)", room.shelf(0, 0), -1);
        Due.is("new bag(0, 0)", room.bag(0, 0), -1);
        Due.is("new tick(5)", room.tick(5), 5);
        Due.is("new moved(0, 27)", room.moved(0, 27) ? 1 : 0, 0);
        Due.is("new gone(0, 27)", room.gone(0, 27) ? 1 : 0, 0);
        Due.fires("new price", () -> room.price(0, 1, 0, 0), Due.ILLEGAL_ARGUMENT);
        Due.fires("new way", () -> room.way(0, 0), Due.ILLEGAL_ARGUMENT);
        Due.fires("new accept", () -> room.accept(0, 1, 0), Due.ILLEGAL_ARGUMENT);
        Due.fires("new bar", () -> room.bar(0, 0), Due.NO_ELEMENT);
        Due.fires("new item", () -> room.item(0, 0), Due.NO_ELEMENT);
        Due.fires("new place", () -> room.place(0, 0), Due.NO_ELEMENT);
        for (int i = 0; i < 12; i++) {
            Due.is("new number", i < 10 ? room.number(i) : 0, 0);
            Due.is("new held", i < 4 ? room.held(i) : -1, -1);
            Due.is("new tray 0", room.tray(i, 0), 0);
            Due.is("new tray 1", room.tray(i, 1), -1);
            Due.is("new tray 2", room.tray(i, 2), -1);
        }
        Due.is("an empty programme", room.programme(), 0);
        Due.is("no office to run at", room.run(0, 1), -1);
        Due.is("an empty book", room.book(), 0);
    }

    private static void feed() {
        PostRoom room = new PostRoom();
        Due.is("nothing fed", room.feed(0, 0, 0), 0);
        Due.is("others left out", room.feed(0x0A207E7F1F800BFFL, -1L, 0x6100000000000062L), 5);
        Due.is("count(16)", room.count(16), 5);
        room.book();
        Due.is("taken", room.count(16), 0);
        for (int i = 1; i <= 170; i++) {
            int due = Math.min(4000, 24 * i);
            Due.is("feed " + i, room.feed(0x2020202020202020L, 0x2020202020202020L, 0x2020202020202020L), due);
        }
        Due.is("4,000 at most", room.count(16), 4000);
        Due.is("blanks are a book", room.book(), 0);
        Due.is("the order of bytes", Due.feed(room, "office a 1 2 3;"), 15);
        Due.is("book", room.book(), 0);
        Due.is("one office", room.count(0), 1);
        for (int i = 0; i < 166; i++) {
            room.feed(0x2020202020202020L, 0x2020202020202020L, 0x2020202020202020L);
        }
        Due.is("3,999", Due.feed(room, "               "), 3999);
        Due.is("the 4,000th sign of eight", room.feed(0x2C3B3B3B3B3B3B3BL, 0, 0), 4000);
        Due.is("its fault", room.book(), 1 + 16 * 3999);
    }
}
