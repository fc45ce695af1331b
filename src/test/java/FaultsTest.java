import java.util.ArrayDeque;
import java.util.ArrayList;
import java.util.Arrays;
import java.util.HashMap;
import java.util.HashSet;
import java.util.LinkedHashSet;
import java.util.List;
import java.util.Map;
import java.util.Random;
import java.util.Set;
import java.util.regex.Matcher;
import java.util.regex.Pattern;

/**
 * FAULTS of books and programmes that were spoilt in any place, against plain models: books against a net of what may
 * follow what, programmes against the document's forms written down as a grammar and a stack of what is still to come.
 */
public final class FaultsTest {
    private static final Pattern TOKEN = Pattern.compile("[a-z][a-z0-9]*|[0-9]+|[^ \n]");
    private static final String SIGNS = ";,=<+-*/%(){}[]@";
    private static final Random RANDOM = new Random(16);

    public static void main(String[] args) {
        Grammar grammar = new Grammar();
        int[] kinds = new int[12];
        for (int i = 0; i < 5000; i++) {
            String text = spoilt(new BookMaker().text());
            Room room = new Room();
            int due = new BookNet().fault(text);
            Due.is("fault of book " + text, Due.book(room, text), due);
            kinds[due % 16]++;
        }
        for (int i = 0; i < 5000; i++) {
            String text = spoilt(i % 3 == 0 ? grammar.deep() : grammar.made("PROGRAMME", 40));
            Room room = new Room();
            int due = grammar.fault(text);
            Due.is("fault of programme " + text, Due.programme(room, text), due);
            kinds[6 + due % 16]++;
        }
        for (int kind : new int[] {0, 1, 2, 3, 4, 5, 6, 7, 10, 11}) {
            Due.is("texts of kind " + kind + ", " + kinds[kind] + ", are enough", kinds[kind] > 50, true);
        }
        Due.end("FaultsTest");
    }

    private static int any(int bound) {
        return RANDOM.nextInt(bound);
    }

    private static String one(String... of) {
        return of[any(of.length)];
    }

    private static List<String[]> tokens(String text) {
        List<String[]> tokens = new ArrayList<>();
        Matcher matcher = TOKEN.matcher(text);
        while (matcher.find()) {
            String token = matcher.group();
            boolean isName = Character.isLowerCase(token.charAt(0));
            boolean isNumber = Character.isDigit(token.charAt(0));
            String kind = isName && token.length() <= 12 ? "NAME" : isNumber && token.length() <= 9 ? "NUMBER"
                : token.length() == 1 && SIGNS.contains(token) ? token : "BAD";
            tokens.add(new String[] {kind, token, "" + matcher.start()});
        }
        tokens.add(new String[] {"END", "", "" + text.length()});
        return tokens;
    }

    /** Some texts stay as they are, in others a few TOKENS are left out, doubled, exchanged, or others. */
    private static String spoilt(String text) {
        List<String> parts = new ArrayList<>();
        for (String[] token : tokens(text)) {
            parts.add(token[1]);
        }
        int times = any(4) == 0 ? 0 : 1 + any(2);
        for (int i = 0; i < times; i++) {
            int at = any(parts.size());
            switch (any(6)) {
                case 0: parts.remove(at); break;
                case 1: parts.add(at, parts.get(at)); break;
                case 2: parts.set(at, parts.get(any(parts.size()))); break;
                case 3: parts.add(at, parts.get(any(parts.size()))); break;
                case 4: parts.set(at, one("in", "9", "10", "0", "1", "1000", "4001", "999999999", "1000000000", "a", "r9", "r10", "x4", "?", "A",
                    ";", "{", "}", "(", ")", "abcdefghijklm", "abcdefghijkl", "odd", "on", "else", "always", "-", "=", "_", "over")); break;
                default: parts = new ArrayList<>(parts.subList(0, at)); break;
            }
            if (parts.isEmpty()) {
                return "";
            }
        }
        StringBuilder told = new StringBuilder();
        for (String part : parts) {
            boolean isWord = !part.isEmpty() && Character.isLetterOrDigit(part.charAt(0));
            boolean isBehindWord = told.length() > 0 && Character.isLetterOrDigit(told.charAt(told.length() - 1));
            told.append(isWord && isBehindWord || any(5) == 0 ? one(" ", "\n", "  ") : "").append(part);
        }
        return told.length() > 4000 ? told.substring(0, 4000) : told.toString();
    }

    /** Makes books that have mostly no FAULT, now and then with too many of a sort. */
    private static final class BookMaker {
        private final StringBuilder text = new StringBuilder();
        private final List<String> offices = new ArrayList<>();
        private int made = 0;

        String text() {
            int most = one("s", "s", "l").equals("s") ? 12 : 50;
            String favourite = one("office", "short", "street", "service", "coach");
            for (int i = 0; i < most && text.length() < 3600; i++) {
                statement(i < 2 ? "office" : any(3) > 0 ? favourite : one("office", "short", "street", "service", "coach"));
            }
            return text.toString();
        }

        private String name() {
            made++;
            return any(40) == 0 ? one("in", "odd", "office", "from", "a1") : one("n", "in", "odd", "z9") + made;
        }

        private String edge(int least, int most) {
            return "" + (any(30) == 0 ? one("" + (least - 1), "" + (most + 1)).replace("-", "") : "" + (any(3) == 0 ? least : least + any(most - least + 1)));
        }

        private void put(String... words) {
            for (String word : words) {
                text.append(word).append(' ');
            }
        }

        private String told() {
            return offices.isEmpty() || any(40) == 0 ? "nowhere" : offices.get(any(offices.size()));
        }

        private void statement(String kind) {
            put(kind);
            switch (kind) {
                case "office":
                    String office = name();
                    put(office, "" + (100 + made), edge(0, 999), edge(0, 999), ";");
                    offices.add(office);
                    break;
                case "short": put(name(), name(), ";"); break;
                case "street": street(); break;
                case "service": service(); break;
                default:
                    String from = told();
                    String to = told();
                    int first = any(1440);
                    put(from, from.equals(to) && any(9) > 0 ? offices.get((offices.indexOf(to) + 1) % offices.size()) : to, "first", "" + first,
                        "every", edge(1, 1440), "last", edge(first, 1439), "takes", edge(1, 3000), "holds", edge(1, 20), ";");
                    break;
            }
        }

        private void street() {
            for (int i = any(3); i >= 0; i--) {
                put(any(30) == 0 ? "in" : one("mill", "lane", "odd", "of"));
            }
            int least = 1 + any(999);
            put("in", told());
            put(any(2) == 0 ? one("odd", "even") : "", "from", "" + least, "to", edge(least, 999), "at", edge(0, 999), edge(0, 999),
                one("e", "n", "w", "s"), "walk", edge(0, 9), ";");
        }

        private void service() {
            put(name(), one("letter", "parcel", "register"), "most", edge(1, 4000));
            for (int i = any(5) == 0 ? 7 + any(3) : any(4); i > 0; i--) {
                String rule = one("base", "each", "zone", "far", "up", "least", "cut");
                put(rule, rule.equals("each") ? edge(1, 4000) : rule.equals("zone") ? edge(0, 9) : "");
                put(rule.equals("cut") ? edge(1, 99) : edge(0, 9999), rule.equals("each") ? "over " + edge(0, 4000) : "");
            }
            put(";");
        }
    }

    /**
     * What may follow what in a book: in each state some things may come, each of which leads to another state. Kind 1 is
     * told only of a token that is none of these.
     */
    private static final class BookNet {
        private static final String[] NET = {
            "begin: END>end office>o1 short>h1 street>s1 service>v1 coach>c1",
            "o1: newoffice>o2", "o2: newcode>o3", "o3: 0..999>o4", "o4: 0..999>o5", "o5: ;>begin",
            "h1: newshort>h2", "h2: name>h3", "h3: ;>begin",
            "s1: notin>s2", "s2: notin>s3 in>s5", "s3: notin>s4 in>s5", "s4: in>s5", "s5: told>s6", "s6: odd>s7 even>s7 from>s8", "s7: from>s8",
            "s8: 1..999>s9", "s9: to>s10", "s10: low..999>s11", "s11: at>s12", "s12: 0..999>s13", "s13: 0..999>s14", "s14: e>s15 n>s15 w>s15 s>s15",
            "s15: walk>s16", "s16: 0..9>s17", "s17: ;>begin",
            "v1: newservice>v2", "v2: letter>v3 parcel>v3 register>v3", "v3: most>v4", "v4: 1..4000>v5",
            "v5: ;>begin base>v6 each>v7 zone>v8 far>v6 up>v6 least>v6 cut>v9", "v6: 0..9999>v5", "v7: 1..4000>v10", "v10: 0..9999>v11",
            "v11: over>v12", "v12: 0..4000>v5", "v8: 0..9>v6", "v9: 1..99>v5",
            "c1: told>c2", "c2: toldother>c3", "c3: first>c4", "c4: 0..1439>c5", "c5: every>c6", "c6: 1..1440>c7", "c7: last>c8", "c8: low..1439>c9",
            "c9: takes>c10", "c10: 1..3000>c11", "c11: holds>c12", "c12: 1..20>c13", "c13: ;>begin"};
        private static final Map<String, Integer> MOST = Map.of("office", 16, "short", 20, "street", 60, "service", 8, "coach", 40);

        private final Map<String, String[]> net = new HashMap<>();
        private final Map<String, Integer> counts = new HashMap<>();
        private final Set<String> told = new HashSet<>();
        private String state = "begin";
        private int rules = 0;
        private int low = 0;
        private String firstOffice = "";

        BookNet() {
            for (String line : NET) {
                net.put(line.substring(0, line.indexOf(':')), line.substring(line.indexOf(' ') + 1).split(" "));
            }
        }

        int fault(String text) {
            for (String[] token : tokens(text)) {
                int least = 1;
                String next = "";
                for (String edge : net.get(state)) {
                    int wrong = wrong(edge.substring(0, edge.indexOf('>')), token[0], token[1]);
                    if (wrong != 1 && (least == 1 || wrong < least)) {
                        least = wrong;
                        next = edge.substring(edge.indexOf('>') + 1);
                    }
                }
                if (least > 0) {
                    return least + 16 * Integer.parseInt(token[2]);
                }
                take(token[0], token[1]);
                state = next;
            }
            return 0;
        }

        private int wrong(String wanted, String kind, String token) {
            if (wanted.contains("..")) {
                int from = wanted.startsWith("low") ? low : Integer.parseInt(wanted.substring(0, wanted.indexOf('.')));
                int to = Integer.parseInt(wanted.substring(wanted.lastIndexOf('.') + 1));
                return !kind.equals("NUMBER") ? 1 : number(token) < from || number(token) > to ? 4 : 0;
            }
            switch (wanted) {
                case "END": case ";": return kind.equals(wanted) ? 0 : 1;
                case "newcode":
                    return !kind.equals("NUMBER") ? 1 : number(token) < 1 || number(token) > 999 ? 4 : told.contains("code" + number(token)) ? 3 : 0;
                case "newoffice": case "newshort": case "newservice":
                    return !kind.equals("NAME") ? 1 : told.contains(wanted + token) ? 3 : 0;
                case "told": return !kind.equals("NAME") ? 1 : told.contains("newoffice" + token) ? 0 : 2;
                case "toldother": return token.equals(firstOffice) ? 3 : wrong("told", kind, token);
                case "name": return kind.equals("NAME") ? 0 : 1;
                case "notin": return kind.equals("NAME") && !token.equals("in") ? 0 : 1;
                default: break;
            }
            if (!token.equals(wanted)) {
                return 1;
            }
            boolean isMany = state.equals("begin") && counts.getOrDefault(token, 0) >= MOST.get(token) || state.equals("v5") && rules >= 8;
            return isMany ? 5 : 0;
        }

        private static int number(String token) {
            return Integer.parseInt(token);
        }

        private void take(String kind, String token) {
            if (state.equals("begin")) {
                counts.merge(token, 1, Integer::sum);
                rules = 0;
            }
            rules += state.equals("v5") ? 1 : 0;
            low = kind.equals("NUMBER") && (state.equals("s8") || state.equals("c4")) ? number(token) : low;
            firstOffice = state.equals("c1") ? token : firstOffice;
            switch (state) {
                case "o1": told.add("newoffice" + token); break;
                case "o2": told.add("code" + number(token)); break;
                case "h1": told.add("newshort" + token); break;
                case "v1": told.add("newservice" + token); break;
                default: break;
            }
        }
    }

    /** The forms of programmes; "-" is nothing. */
    private static final class Grammar {
        private static final String[] FORMS = {
            "PROGRAMME: STATEMENT PROGRAMME | -",
            "STATEMENT: rN = E ; | xN = ITEM ; | make TRAY ROW E ; | drop TRAY ; | same TRAY TRAY ; | put TRAY [ E ] E ; | lay TRAY [ E ] ITEM ;"
                + " | slide TRAY E , TRAY E , E ; | bag ITEM , E ; | refuse E ; | stop ; | if E BLOCK ELSE | while E BLOCK | try BLOCK ONS ALWAYS",
            "ELSE: else BLOCK | -", "ONS: on DIGIT BLOCK ONS | -", "ALWAYS: always BLOCK | -", "BLOCK: { PROGRAMME }",
            "E: SUM THAN", "THAN: < SUM | = SUM | -", "SUM: PRODUCT SUMS", "SUMS: + PRODUCT SUMS | - PRODUCT SUMS | -",
            "PRODUCT: UNIT PRODUCTS", "PRODUCTS: * UNIT PRODUCTS | / UNIT PRODUCTS | % UNIT PRODUCTS | -",
            "UNIT: NUMBER | rN | ( E ) | - UNIT | len TRAY | sort TRAY | at TRAY [ E ] | code ITEM | weight ITEM | kind ITEM | next ITEM | is ITEM"
                + " | many | here | time",
            "TRAY: @ UNIT", "ITEM: xN | none | shelf UNIT | item TRAY [ E ] | letter ITEM | parcel ITEM | register ITEM",
            "ROW: truths | bytes | signs | shorts | ints | longs | floats | doubles | items | letters | parcels | registers"};
        private static final List<String> COUNTED = Arrays.asList("BLOCK", "UNIT", "ITEM");
        private static final String[][] OPENERS = {{"(", ")"}, {"-", ""}, {"at@0[", "]"}, {"at@", "[1]"}, {"len@", ""}, {"1+(", ")"},
            {"weight item@0[", "]"}, {"weight item@", "[0]"}, {"code shelf ", ""}, {"is shelf(", ")"}};

        private final Map<String, List<String[]>> forms = new HashMap<>();

        Grammar() {
            for (String line : FORMS) {
                List<String[]> ways = new ArrayList<>();
                for (String way : line.substring(line.indexOf(' ') + 1).split(" \\| ")) {
                    ways.add(way.equals("-") ? new String[0] : way.split(" "));
                }
                forms.put(line.substring(0, line.indexOf(':')), ways);
            }
        }

        /** All with which it may begin; "" if it may be nothing. */
        private Set<String> begins(String symbol) {
            Set<String> found = new LinkedHashSet<>();
            if (!forms.containsKey(symbol)) {
                found.add(symbol);
                return found;
            }
            for (String[] way : forms.get(symbol)) {
                found.addAll(begins(way));
            }
            return found;
        }

        private Set<String> begins(String[] way) {
            Set<String> found = new LinkedHashSet<>();
            for (String symbol : way) {
                found.addAll(begins(symbol));
                if (!found.remove("")) {
                    return found;
                }
            }
            found.add("");
            return found;
        }

        private static boolean isOne(String terminal, String[] token) {
            switch (terminal) {
                case "rN": return token[1].matches("r[0-9]");
                case "xN": return token[1].matches("x[0-3]");
                case "NUMBER": case "DIGIT": return token[0].equals("NUMBER");
                case "": return false;
                default: return token[1].equals(terminal);
            }
        }

        /** What is still to come lies on a stack, each with how many BLOCKS, UNITS and ITEMS it lies within. */
        int fault(String text) {
            ArrayDeque<String> rest = new ArrayDeque<>();
            ArrayDeque<Integer> depths = new ArrayDeque<>();
            rest.push("PROGRAMME");
            depths.push(0);
            for (String[] token : tokens(text)) {
                int wrong = take(token, rest, depths);
                if (wrong != 0) {
                    return wrong + 16 * Integer.parseInt(token[2]);
                }
            }
            return 0;
        }

        private int take(String[] token, ArrayDeque<String> rest, ArrayDeque<Integer> depths) {
            while (!rest.isEmpty()) {
                String symbol = rest.pop();
                int depth = depths.pop();
                if (!forms.containsKey(symbol)) {
                    return !isOne(symbol, token) ? 1 : symbol.equals("DIGIT") && token[1].replaceFirst("^0+(?=.)", "").length() > 1 ? 4 : 0;
                }
                boolean mayBeNothing = false;
                String[] taken = null;
                for (String[] way : forms.get(symbol)) {
                    mayBeNothing |= way.length == 0;
                    taken = begins(way).stream().anyMatch(b -> isOne(b, token)) ? way : taken;
                }
                if (taken == null && !mayBeNothing) {
                    return 1;
                }
                boolean isCounted = COUNTED.contains(symbol);
                if (isCounted && depth >= 20) {
                    return 5;
                }
                for (int i = taken == null ? -1 : taken.length - 1; i >= 0; i--) {
                    rest.push(taken[i]);
                    depths.push(depth + (isCounted ? 1 : 0));
                }
            }
            return token[0].equals("END") ? 0 : 1;
        }

        private String made(String symbol, int budget) {
            switch (symbol) {
                case "rN": return "r" + any(10) + " ";
                case "xN": return "x" + any(4) + " ";
                case "DIGIT": return (any(6) == 0 ? one("10", "09", "00", "123") : "" + any(10)) + " ";
                case "NUMBER": return one("0", "1", "42", "999999999", "007") + " ";
                default: break;
            }
            if (!forms.containsKey(symbol)) {
                return symbol + " ";
            }
            List<String[]> ways = forms.get(symbol);
            String[] way = ways.get(any(ways.size()));
            if (budget <= 0) {
                way = symbol.equals("UNIT") || symbol.equals("ITEM") ? ways.get(any(2)) : ways.get(ways.size() - 1);
                way = symbol.equals("STATEMENT") ? ways.get(10) : way;
            }
            StringBuilder text = new StringBuilder();
            for (String part : way) {
                text.append(made(part, symbol.equals("PROGRAMME") ? budget - 3 : budget * 2 / 3 - 1));
            }
            return symbol.equals("PROGRAMME") && any(2) == 0 && budget > 10 ? text + made(symbol, budget - 2) : text.toString();
        }

        /** A number in some 20 BLOCKS, UNITS and ITEMS. */
        String deep() {
            int blocks = any(3) == 0 ? 15 + any(8) : any(5);
            int units = any(3) == 0 ? 17 - blocks + any(5) : any(20);
            StringBuilder open = new StringBuilder();
            StringBuilder close = new StringBuilder();
            for (int i = 0; i < blocks; i++) {
                open.append(one("if 1 {", "while 0 {", "try {", "try { } on 3 {", "try { } always {", "if 0 { } else {"));
                close.append("}");
            }
            open.append(one("r1=", "refuse ", "make @0 ints ", "put @0[1]", "bag x0,"));
            for (int i = 0; i < units; i++) {
                String[] opener = OPENERS[any(OPENERS.length)];
                open.append(opener[0]);
                close.insert(0, opener[1]);
            }
            return open + "0 " + close.insert(units == 0 ? 0 : close.length() - blocks, ";");
        }
    }
}
