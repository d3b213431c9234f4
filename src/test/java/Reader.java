import java.util.ArrayDeque;
import java.util.ArrayList;
import java.util.Deque;
import java.util.HashMap;
import java.util.HashSet;
import java.util.List;
import java.util.Map;
import java.util.Set;
import java.util.regex.Matcher;
import java.util.regex.Pattern;

/**
 * The faults of a text once more, read in another way than the class reads: all tokens are cut first, and what may
 * come next lies on a pile, the top of which is unfolded by the token that stands there.
 */
final class Reader {
    private static final Pattern TOKEN = Pattern.compile("[a-z]+|[0-9]+|[^ \n]", Pattern.DOTALL);
    private static final Set<String> OWN = Set.of("square", "by", "tower", "high", "law", "person", "at", "tall", "pace",
            "does", "spin", "force", "wall", "winds", "may", "gust", "noon", "height", "wore", "terms", "column", "row",
            "gets", "number", "or", "and", "not", "all", "min", "max");
    private static final Set<String> IN_WINDS = Set.of("noon", "height");
    private static final Set<String> IN_MAY = Set.of("noon", "height", "tall", "pace", "wore", "terms");
    private static final Set<String> ASKED = Set.of("number", "column", "row", "tall", "pace", "wore", "terms", "noon",
            "force", "gets");

    int fault = 0;
    int place = -1;
    int statements = 0;
    private final List<String> tokens = new ArrayList<>();
    private final List<Integer> starts = new ArrayList<>();
    private int at = 0;
    private final Deque<String> pile = new ArrayDeque<>();
    private Set<String> parts = Set.of();
    private int open = 0;
    private final Map<String, Integer> numbers = new HashMap<>();
    private final Set<String> laws = new HashSet<>();
    private final Set<String> people = new HashSet<>();
    private final Set<String> walls = new HashSet<>();
    private final Set<String> stood = new HashSet<>();
    private final Set<String> onlyOnce = new HashSet<>();

    private Reader(String text) {
        Matcher m = TOKEN.matcher(text);
        while (m.find()) {
            tokens.add(m.group());
            starts.add(m.start());
        }
        tokens.add("");
        starts.add(text.length());
    }

    static Reader ofSquare(String text) {
        Reader r = new Reader(text);
        r.push("square", "# columns 2 9", "by", "# rows 2 9", "tower", "# x column", "# y row", "high", "# high 1 9", ";",
                "STATEMENTS");
        r.unfoldAll();
        return r;
    }

    static Reader ofQuestion(String text) {
        Reader r = new Reader(text);
        r.parts = ASKED;
        r.push("QUESTION", "END");
        r.unfoldAll();
        return r;
    }

    private void push(String... symbols) {
        for (int k = symbols.length - 1; k >= 0; k--) {
            pile.push(symbols[k]);
        }
    }

    private String token() {
        return tokens.get(at);
    }

    private boolean glued() {
        return at > 0 && alike(tokens.get(at)) && alike(tokens.get(at - 1))
                && starts.get(at) == starts.get(at - 1) + tokens.get(at - 1).length();
    }

    private static boolean alike(String token) {
        return token.matches("[a-z0-9]+");
    }

    private boolean is(String... any) {
        return !glued() && List.of(any).contains(token());
    }

    private void fail(int what, int behind) {
        fault = what;
        place = starts.get(at) + behind;
        pile.clear();
    }

    private void unfoldAll() {
        while (!pile.isEmpty()) {
            unfold(pile.pop());
        }
    }

    private void unfold(String symbol) {
        if (symbol.startsWith("#")) {
            number(symbol.split(" "));
        } else if (symbol.startsWith("!")) {
            act(symbol);
        } else if (symbol.startsWith("NAME")) {
            name(symbol);
        } else if (symbol.equals(symbol.toUpperCase()) && symbol.length() > 1) {
            rule(symbol);
        } else if (is(symbol)) {
            at++;
        } else {
            fail(1, 0);
        }
    }

    private void number(String[] told) {
        if (glued() || !token().matches("[0-9]+")) {
            fail(1, 0);
            return;
        }
        if (token().length() > 4) {
            fail(1, 4);
            return;
        }
        int n = Integer.parseInt(token());
        int least = told.length > 3 ? Integer.parseInt(told[2]) : 0;
        int most = told.length > 3 ? Integer.parseInt(told[3])
                : numbers.get(told[2].equals("column") ? "columns" : "rows") - 1;
        numbers.put(told[1], n);
        String there = numbers.get("x") + " " + n;
        boolean full = told[1].equals("person-y") && (walls.contains(there) || stood.contains(there));
        full |= told[1].equals("wall-y") && (walls.contains(there) || stood.contains(there)
                || there.equals(numbers.get("tower-x") + " " + numbers.get("tower-y")));
        if (n < least || n > most || full) {
            fail(2, 0);
            return;
        }
        if (told[1].equals("y")) {
            numbers.put("tower-x", numbers.get("x"));
            numbers.put("tower-y", n);
        } else if (told[1].equals("person-y")) {
            stood.add(there);
        } else if (told[1].equals("wall-y")) {
            walls.add(there);
        }
        at++;
    }

    private void name(String kind) {
        if (glued() || !token().matches("[a-z]+") || OWN.contains(token())) {
            fail(1, 0);
        } else if (token().length() > 6) {
            fail(1, 6);
        } else if (kind.equals("NAME OF LAW") != laws.contains(token())
                || !kind.equals("NAME OF LAW") && people.contains(token())) {
            fail(3, 0);
        } else {
            if (kind.equals("NAME NEW LAW")) {
                laws.add(token());
            } else if (kind.equals("NAME NEW PERSON")) {
                people.add(token());
            }
            at++;
        }
    }

    /** A word or a sign that opens, at the 7th of which a text ends; and what closes it. */
    private void act(String what) {
        if (what.equals("!closed")) {
            open--;
        } else if (!is(what.substring(1))) {
            fail(1, 0);
        } else if (open == 6) {
            fail(4, 0);
        } else {
            open++;
            at++;
        }
    }

    private void statement() {
        boolean full = is("law") && laws.size() == 6 || is("person") && people.size() == 6 || is("wall") && walls.size() == 10
                || is("winds", "may") && !onlyOnce.add(token());
        statements++;
        if (token().isEmpty()) {
            return;
        }
        if (statements == 60 || full) {
            fail(5, 0);
        } else if (is("law")) {
            push("law", "NAME NEW LAW", ";", "STATEMENTS");
        } else if (is("person")) {
            push("person", "NAME NEW PERSON", "at", "# x column", "# person-y row", "tall", "# tall 0 9", "pace", "# pace 0 2",
                    "does", "NAME OF LAW", "SPIN", ";", "STATEMENTS");
        } else if (is("wall")) {
            push("wall", "# x column", "# wall-y row", ";", "STATEMENTS");
        } else if (is("gust")) {
            push("gust", "# gust 0 100", ";", "STATEMENTS");
        } else if (is("winds")) {
            parts = IN_WINDS;
            push("winds", "SUM", ";", "STATEMENTS");
        } else if (is("may")) {
            parts = IN_MAY;
            push("may", "TEST", ";", "STATEMENTS");
        } else {
            fail(1, 0);
        }
    }

    private void rule(String symbol) {
        switch (symbol) {
            case "STATEMENTS": statement(); break;
            case "SPIN": pushIf(is("spin"), "spin", "# way 0 8", "force", "# force 0 3"); break;
            case "QUESTION":
                push(token(), is("total", "most", "least") ? "SUM" : is("first", "last", "often") ? "TEST" : "NEVER");
                if (!is("total", "most", "least", "first", "last", "often")) {
                    fail(1, 0);
                }
                break;
            case "END": if (!token().isEmpty()) { fail(1, 0); } break;
            case "TEST": push("BOTH", "MORE TESTS"); break;
            case "MORE TESTS": pushIf(is("or"), "or", "BOTH", "MORE TESTS"); break;
            case "BOTH": push("FACT", "MORE FACTS"); break;
            case "MORE FACTS": pushIf(is("and"), "and", "FACT", "MORE FACTS"); break;
            case "FACT": fact(); break;
            case "SIGN": if (is("<", ">", "=")) { at++; } else { fail(1, 0); } break;
            case "SUM": push("PRODUCT", "MORE SUMS"); break;
            case "MORE SUMS": pushIf(is("+", "-"), token(), "PRODUCT", "MORE SUMS"); break;
            case "PRODUCT": push("PART", "MORE PARTS"); break;
            case "MORE PARTS": pushIf(is("*", "/"), token(), "PART", "MORE PARTS"); break;
            default: part();
        }
    }

    private void pushIf(boolean so, String... symbols) {
        if (so) {
            push(symbols);
        }
    }

    private void fact() {
        if (is("not")) {
            push("!not", "FACT", "!closed");
        } else if (is("[")) {
            push("![", "TEST", "]", "!closed");
        } else if (is("all")) {
            push("all");
        } else {
            push("SUM", "SIGN", "SUM");
        }
    }

    private void part() {
        if (is("(")) {
            push("!(", "SUM", ")", "!closed");
        } else if (is("min", "max")) {
            push(token(), "!(", "SUM", ",", "SUM", ")", "!closed");
        } else if (is("spin") && parts == ASKED) {
            push("!spin", "PART", "!closed");
        } else if (!glued() && parts.contains(token())) {
            push(token());
        } else {
            push("# part 0 9999");
        }
    }
}
