import java.lang.reflect.Constructor;
import java.lang.reflect.Field;
import java.lang.reflect.Method;
import java.lang.reflect.Modifier;
import java.util.Arrays;
import java.util.TreeSet;

/** The public face. */
public final class FaceTest {
    private static final String[] FACE = {
        "int feed(long,long,long)", "int book()", "int find()", "int found(int)",
        "int price(int,int,int,int) IllegalArgumentException", "int way(int,int) IllegalArgumentException",
        "int accept(int,int,int) IllegalArgumentException", "int bar(int,int) NoSuchElementException",
        "int read()", "int mended()", "int tick(int)", "int sort(int)", "int deliver(int,int)",
        "boolean moved(int,int)", "boolean gone(int,int)", "int programme()", "int run(int,int)",
        "long number(int) IndexOutOfBoundsException", "int held(int) IndexOutOfBoundsException",
        "int tray(int,int) IndexOutOfBoundsException", "long place(int,int) NoSuchElementException",
        "int item(int,int) NoSuchElementException", "int shelf(int,int)", "int bag(int,int)", "int count(int)"};

    public static void main(String[] args) {
        face();
        Due.end("FaceTest");
    }

    private static void face() {
        TreeSet<String> seen = new TreeSet<>();
        TreeSet<String> names = new TreeSet<>();
        for (Method method : PostRoom.class.getDeclaredMethods()) {
            if (Modifier.isPublic(method.getModifiers())) {
                seen.add(told(method));
                names.add(method.getName());
            }
        }
        TreeSet<String> due = new TreeSet<>(Arrays.asList(FACE));
        Due.is("face " + seen, seen.equals(due) ? 1 : 0, 1);
        for (Method method : PostRoom.class.getDeclaredMethods()) {
            boolean isPublic = Modifier.isPublic(method.getModifiers());
            Due.is("private " + method.getName(), isPublic || Modifier.isPrivate(method.getModifiers()) ? 1 : 0, 1);
            Due.is("name of " + method.getName(), !isPublic && names.contains(method.getName()) ? 1 : 0, 0);
        }
        int constants = 0;
        for (Field field : PostRoom.class.getDeclaredFields()) {
            boolean isPublic = Modifier.isPublic(field.getModifiers());
            Due.is("field " + field.getName(), isPublic || Modifier.isPrivate(field.getModifiers()) ? 1 : 0, 1);
            constants += isPublic ? 1 : 0;
        }
        Due.is("constants", constants, 1);
        Constructor<?>[] makers = PostRoom.class.getDeclaredConstructors();
        Due.is("constructors", makers.length, 1);
        Due.is("constructor's parameters", makers[0].getParameterCount(), 0);
        Due.is("public final", PostRoom.class.getModifiers(), Modifier.PUBLIC | Modifier.FINAL);
        Due.is("NONE", PostRoom.NONE, -1);
    }

    private static String told(Method method) {
        StringBuilder text = new StringBuilder(method.getReturnType() + " " + method.getName() + "(");
        for (int i = 0; i < method.getParameterCount(); i++) {
            text.append(i == 0 ? "" : ",").append(method.getParameterTypes()[i]);
        }
        text.append(")");
        for (Class<?> thrown : method.getExceptionTypes()) {
            text.append(" ").append(thrown.getSimpleName());
        }
        return text.toString();
    }
}
