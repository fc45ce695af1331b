import java.io.IOException;
import java.nio.file.Files;
import java.nio.file.Path;
import java.util.ArrayList;
import java.util.Arrays;
import java.util.List;
import java.util.regex.Matcher;
import java.util.regex.Pattern;

/** What of LANGUAGE.md can be seen in the text of PostRoom.java. */
public final class RulesTest {
    private static final List<String> FACE = Arrays.asList("feed", "book", "find", "found", "price", "way", "accept", "bar", "read", "mended",
        "tick", "sort", "deliver", "moved", "gone", "programme", "run", "number", "held", "tray", "place", "item", "shelf", "bag", "count");
    private static final Pattern METHOD = Pattern.compile("^ +(?:(public|private) )?(?:static )?[A-Za-z<>\\[\\]]+ (\\w+)\\(([^)]*)\\).*\\{$");

    public static void main(String[] args) throws IOException {
        String source = Files.readString(Path.of("src/main/java/PostRoom.java"));
        String code = source.replaceAll("(?s)/\\*.*?\\*/", "").replaceAll("\"[^\"\n]*\"", "\"\"").replaceAll("'[^'\n]+'", "'c'")
            .replaceAll("//.*", "");
        String[] banned = {"->", "::", "\\bfinally\\b", "\\bsynchronized\\b", "\\bassert\\b", "\\w+Exact\\b", "String\\[\\]", "\\bString\\.",
            "\\bObject\\b", "\"\" *\\+", "\\+ *\"\"", "\\bSystem\\.(?!arraycopy)", "\\bDouble\\b", "\\bvar\\b",
            "\\bwhile \\(true\\)", "for \\(;", "\\bprotected\\b", "\\bpackage\\b"};
        for (String pattern : banned) {
            Matcher matcher = Pattern.compile(pattern).matcher(code);
            Due.is("found " + pattern, matcher.find() ? 1 : 0, 0);
        }
        Due.is("signs of texts", source.chars().allMatch(c -> c == 10 || c >= 32 && c < 127) ? 1 : 0, 1);
        Due.is("classes, 12 at most", Pattern.compile("\\bclass \\w+").matcher(code).results().count() <= 12 ? 1 : 0, 1);
        Due.is("imports", Pattern.compile("(?m)^import (?!java\\.util\\.(ArrayList|Arrays|Iterator|List|NoSuchElementException);)").matcher(code).find() ? 1 : 0, 0);
        methods(source.split("\n"));
        fields(code);
        Due.end("RulesTest");
    }

    private static void methods(String[] lines) {
        List<String> seen = new ArrayList<>();
        for (int i = 0; i < lines.length; i++) {
            Matcher matcher = METHOD.matcher(lines[i]);
            if (!matcher.matches() || lines[i].contains(" new ") || lines[i].trim().startsWith("return")) {
                continue;
            }
            String name = matcher.group(2);
            seen.add(name);
            boolean isPublic = "public".equals(matcher.group(1));
            Due.is("name of " + name, FACE.contains(name) == isPublic ? 1 : 0, 1);
            Due.is("parameters of " + name, matcher.group(3).split(",").length <= 7 ? 1 : 0, 1);
            int end = i;
            String indent = lines[i].replaceAll("\\S.*", "");
            while (end < lines.length && !lines[end].equals(indent + "}")) {
                end++;
            }
            Due.is("lines of " + name, end - i < 60 ? 1 : 0, 1);
        }
        Due.is("methods were seen", seen.size() >= FACE.size() ? 1 : 0, 1);
    }

    private static void fields(String code) {
        for (String part : code.split("static final class ")) {
            long fields = Pattern.compile("(?m)^        (?:final )?[\\w<>\\[\\]]+ \\w+;$").matcher(part).results().count();
            Due.is("fields of " + part.substring(0, Math.min(12, part.length())), fields <= 20 ? 1 : 0, 1);
        }
    }
}
