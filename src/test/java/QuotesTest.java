import java.io.IOException;
import java.nio.file.Files;
import java.nio.file.Path;
import java.util.Arrays;
import java.util.List;
import java.util.regex.Matcher;
import java.util.regex.Pattern;
import java.util.stream.Collectors;
import java.util.stream.Stream;

/**
 * The sentences that tests hold the class to stand in the document, where these tests say; and no sentence of its
 * terms and promises is without a test.
 */
public final class QuotesTest {
    private static final Pattern QUOTE = Pattern.compile("Due\\.holds\\(\\s*(\\w+|\"[^\"]*\")\\s*,\\s*(\"[^\"]*\"(?:\\s*\\+\\s*\"[^\"]*\")*)\\)");
    private static final Pattern CONSTANT = Pattern.compile("String ([A-Z]+) = \"((?:Terms|Promise) [^\"]*)\"");
    private static final String PLACE = "==== %s. ";

    private final String document;
    private final boolean[] isQuoted;

    private QuotesTest(String text) {
        document = text.replaceAll("```\\w*", "").replaceAll("\\s+", " ");
        isQuoted = new boolean[document.length()];
    }

    public static void main(String[] args) throws IOException {
        QuotesTest quotes = new QuotesTest(Files.readString(Path.of(System.getProperty("shared", "../shared"), "DOC.md")));
        List<Path> tests;
        try (Stream<Path> files = Files.list(Path.of("src/test/java"))) {
            tests = files.filter(f -> f.toString().endsWith("SentencesTest.java")).sorted().collect(Collectors.toList());
        }
        for (Path test : tests) {
            quotes.lookUp(Files.readString(test), test.getFileName().toString());
        }
        quotes.complain();
        Due.end("QuotesTest");
    }

    private void lookUp(String source, String test) {
        Matcher quote = QUOTE.matcher(source);
        while (quote.find()) {
            String where = quote.group(1).startsWith("\"") ? joined(quote.group(1)) : constant(source, quote.group(1));
            String sentence = joined(quote.group(2));
            int from = begin(where);
            int to = end(where, from);
            int at = from < 0 ? -1 : document.indexOf(sentence, from);
            Due.is(test + ": in " + where + " stands \"" + sentence + "\"", at >= 0 && at + sentence.length() <= to, true);
            while (at >= 0 && at + sentence.length() <= to) {
                Arrays.fill(isQuoted, at, at + sentence.length(), true);
                at = document.indexOf(sentence, at + 1);
            }
        }
    }

    private static String constant(String source, String name) {
        Matcher constants = CONSTANT.matcher(source);
        while (constants.find()) {
            if (constants.group(1).equals(name)) {
                return constants.group(2);
            }
        }
        return name;
    }

    private static String joined(String literals) {
        Matcher parts = Pattern.compile("\"([^\"]*)\"").matcher(literals);
        return parts.results().map(part -> part.group(1)).collect(Collectors.joining());
    }

    /** "Terms 2, ADDRESSES", "Promise 4: find" or "The public face". */
    private int begin(String where) {
        if (where.startsWith("Terms ")) {
            return document.indexOf(String.format(PLACE, where.substring(6, 7)) + where.substring(9));
        }
        return document.indexOf(where.startsWith("Promise ") ? "## " + where + " " : "## The public face ");
    }

    private int end(String where, int from) {
        int next = document.indexOf(where.startsWith("Terms ") ? "==== " : "## ", from + 5);
        return next < 0 || where.startsWith("The ") ? document.length() : next;
    }

    /** Headings, and the lines that tell a call's form, are no sentences. */
    private void complain() {
        StringBuilder rest = new StringBuilder();
        for (int i = document.indexOf("==== 1. "); i < document.indexOf("## Not promised"); i++) {
            rest.append(isQuoted[i] ? '\n' : document.charAt(i));
        }
        String[] left = rest.toString().replaceAll("## Promise \\d+: [\\w ]+ `[^`]*`:", "\n").replaceAll("==== (\\d\\. [A-Z]+\\.)?", "\n")
            .replace("The constants:", "\n").split("\n+");
        for (String part : left) {
            Due.is("a sentence without a test: " + part, part.matches(".*[A-Za-z0-9].*"), false);
        }
    }
}
