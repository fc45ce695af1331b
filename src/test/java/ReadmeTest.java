import java.io.ByteArrayOutputStream;
import java.io.IOException;
import java.io.PrintStream;
import java.lang.reflect.Method;
import java.lang.reflect.Modifier;
import java.nio.file.Files;
import java.nio.file.Path;
import java.util.Collections;
import java.util.List;
import java.util.regex.Pattern;
import java.util.stream.Collectors;
import java.util.stream.Stream;

/** What README.md says: its example is the one that runs, says what stands there, and no call and no test is left out. */
public final class ReadmeTest {
    public static void main(String[] args) throws IOException {
        String readme = Files.readString(Path.of("README.md"));
        String example = Files.readString(Path.of("src/test/java/Example.java"));
        Due.is("the example in README.md", block(readme, "java"), example.substring(example.indexOf("public final class")));
        Due.is("what the example says", block(readme, "text"), saidByExample());
        calls(readme);
        tests(readme);
        classesInside(readme);
        Due.end("ReadmeTest");
    }

    private static String block(String readme, String kind) {
        String mark = "```" + kind + "\n";
        int from = readme.indexOf(mark) + mark.length();
        return readme.substring(from, readme.indexOf("```", from));
    }

    private static String saidByExample() {
        PrintStream screen = System.out;
        ByteArrayOutputStream said = new ByteArrayOutputStream();
        System.setOut(new PrintStream(said, true));
        try {
            Example.main(new String[0]);
        } finally {
            System.setOut(screen);
        }
        return said.toString();
    }

    private static void calls(String readme) {
        for (Method method : PostRoom.class.getDeclaredMethods()) {
            if (Modifier.isPublic(method.getModifiers())) {
                String parameters = String.join(", ", Collections.nCopies(method.getParameterCount(), "\\w+"));
                String row = "(?m)^\\|.*`" + method.getName() + "\\(" + parameters + "\\)`";
                Due.is("README.md tells of " + method.getName(), Pattern.compile(row).matcher(readme).find(), true);
                for (Class<?> thrown : method.getExceptionTypes()) {
                    Due.is("README.md tells what " + method.getName() + " throws",
                        Pattern.compile(row + ".*" + thrown.getSimpleName()).matcher(readme).find(), true);
                }
            }
        }
    }

    private static void tests(String readme) throws IOException {
        List<String> names;
        try (Stream<Path> files = Files.list(Path.of("src/test/java"))) {
            names = files.map(f -> f.getFileName().toString().replace(".java", "")).filter(f -> f.endsWith("Test")).sorted().collect(Collectors.toList());
        }
        for (String name : names) {
            Due.is("README.md tells of " + name, readme.contains("`" + name + "`"), true);
        }
        Due.is("tests were seen", names.size() > 1, true);
    }

    private static void classesInside(String readme) {
        for (Class<?> inside : PostRoom.class.getDeclaredClasses()) {
            Due.is("README.md tells of " + inside.getSimpleName(), readme.contains("`" + inside.getSimpleName() + "`"), true);
        }
    }
}
