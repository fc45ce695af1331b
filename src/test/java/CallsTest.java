import java.io.IOException;
import java.nio.file.Files;
import java.nio.file.Path;
import java.util.ArrayList;
import java.util.Arrays;
import java.util.HashMap;
import java.util.List;
import java.util.Map;
import java.util.TreeMap;
import java.util.TreeSet;
import java.util.regex.Matcher;
import java.util.regex.Pattern;

/** Which method of PostRoom.java calls which: LANGUAGE.md's rules 4 (the library), 8 (recursion) and 11 (how deep calls go). */
public final class CallsTest {
    private static final List<String> LIBRARY = Arrays.asList("get", "add", "remove", "size", "isEmpty", "clear", "charAt", "length", "indexOf",
        "fill", "copyOf", "arraycopy", "min", "max", "abs");
    private static final List<String> EXCEPTIONS = Arrays.asList("IllegalArgumentException", "IndexOutOfBoundsException", "NoSuchElementException");
    private static final List<String> WORDS = Arrays.asList("if", "for", "while", "switch", "return");
    private static final Pattern CLASS = Pattern.compile("^(?:public|    private static) final class (\\w+).*");
    private static final Pattern METHOD = Pattern.compile("^ +(?:(public|private) )?(?:static )?(?:[A-Za-z<>\\[\\]]+ )?(\\w+)\\([^;]*\\{$");
    private static final Pattern CALL = Pattern.compile("(new |[\\w\\])]\\.)?\\b(\\w+)\\(");
    private static final int DEEPEST = 8;

    private final Map<String, StringBuilder> bodies = new TreeMap<>();
    private final TreeSet<String> privates = new TreeSet<>();
    private final TreeSet<String> constructors = new TreeSet<>();
    private final Map<String, TreeSet<String>> calls = new TreeMap<>();
    private final Map<String, Integer> depths = new HashMap<>();

    public static void main(String[] args) throws IOException {
        CallsTest test = new CallsTest();
        test.readMethods(Files.readString(Path.of("src/main/java/PostRoom.java")));
        test.readCalls();
        test.recursion();
        test.depth();
        Due.end("CallsTest");
    }

    private void readMethods(String source) {
        String code = source.replaceAll("(?s)/\\*.*?\\*/", "").replaceAll("\"[^\"\n]*\"", "\"\"").replaceAll("'[^'\n]+'", "'c'");
        String inside = "";
        String current = "";
        for (String line : code.split("\n")) {
            Matcher begins = CLASS.matcher(line);
            Matcher method = METHOD.matcher(line);
            if (begins.matches()) {
                inside = begins.group(1);
                current = "";
                constructors.add(inside);
            } else if (method.matches() && !WORDS.contains(method.group(2))) {
                current = inside + "." + method.group(2);
                Due.is(current + " is there once", bodies.containsKey(current), false);
                bodies.put(current, new StringBuilder());
                if ("private".equals(method.group(1))) {
                    privates.add(current);
                }
            } else if (!current.isEmpty()) {
                bodies.get(current).append(line).append('\n');
            }
        }
        Due.is("methods were seen", bodies.size() > 150, true);
    }

    /** A call of another object may be of any class that has such a method. */
    private void readCalls() {
        for (Map.Entry<String, StringBuilder> entry : bodies.entrySet()) {
            TreeSet<String> called = new TreeSet<>();
            Matcher call = CALL.matcher(entry.getValue());
            while (call.find()) {
                String name = call.group(2);
                if (!WORDS.contains(name)) {
                    called.addAll(meant(entry.getKey(), call.group(1), name));
                }
            }
            calls.put(entry.getKey(), called);
        }
    }

    private List<String> meant(String from, String ahead, String name) {
        List<String> found = new ArrayList<>();
        String own = from.substring(0, from.indexOf('.') + 1) + name;
        if (ahead == null && bodies.containsKey(own)) {
            return List.of(own);
        }
        for (String inside : constructors) {
            String other = inside + "." + ("new ".equals(ahead) ? inside : name);
            boolean isMade = "new ".equals(ahead) && inside.equals(name);
            if (bodies.containsKey(other) && (isMade || ahead != null && !"new ".equals(ahead))) {
                found.add(other);
            }
        }
        boolean isKnown = !found.isEmpty() || "new ".equals(ahead) && (constructors.contains(name) || EXCEPTIONS.contains(name));
        Due.is(from + " calls " + name, isKnown || LIBRARY.contains(name), true);
        return found;
    }

    private TreeSet<String> reachable(String from) {
        TreeSet<String> seen = new TreeSet<>();
        List<String> left = new ArrayList<>(calls.get(from));
        while (!left.isEmpty()) {
            String next = left.remove(left.size() - 1);
            if (seen.add(next)) {
                left.addAll(calls.get(next));
            }
        }
        return seen;
    }

    private boolean isRecursive(String method) {
        return reachable(method).contains(method);
    }

    private void recursion() {
        int seen = 0;
        for (String method : calls.keySet()) {
            if (isRecursive(method)) {
                seen++;
                Due.is(method + ", which is recursion, is private", privates.contains(method), true);
                Due.is(method + " carries the depth", bodies.get(method).indexOf("depth") >= 0, true);
            }
        }
        Due.is("recursion was seen", seen > 10, true);
    }

    private void depth() {
        for (String method : calls.keySet()) {
            Due.is(method + " goes " + depthOf(method) + " deep", depthOf(method) <= DEEPEST, true);
        }
    }

    /** Calls that are recursion are not counted. */
    private int depthOf(String method) {
        Integer known = depths.get(method);
        if (known != null) {
            return known;
        }
        int deepest = 0;
        depths.put(method, 0);
        for (String next : calls.get(method)) {
            if (!isRecursive(next)) {
                deepest = Math.max(deepest, depthOf(next));
            }
        }
        depths.put(method, deepest + 1);
        return deepest + 1;
    }
}
