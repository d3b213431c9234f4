import java.util.ArrayList;
import java.util.List;

/** Good texts with some of their words struck out, doubled, changed or run together: each is read by Reader as well. */
public final class SoupTest {
    private static final Check CHECK = new Check("SoupTest");
    private static final List<String> QUESTION_WORDS = List.of("number", "column", "row", "tall", "pace", "wore",
            "terms", "noon", "force", "gets");
    private static final List<String> WORDS = List.of(("square by tower high law person at tall pace does spin force wall "
            + "winds may gust noon height wore terms column row gets number or and not all min max first last often total "
            + "most least la lb pa pb zz abcdef abcdefg squares A 0 1 2 3 4 8 9 10 99 100 101 0100 9999 10000 00001 12345 "
            + "; ; ; , ( ( ) ) [ [ ] ] + - * / < > = ? \u00c8 \t \u0000").split(" "));
    private static final List<String> AHEAD_OF_PARTS = List.of("+", "-", "*", "/", "<", ">", "=", "(", ",", "winds",
            "total", "most", "least");
    private static final List<String> AHEAD_OF_FACTS = List.of("may", "not", "and", "or", "[", "first", "last", "often");
    private static final int[] FOUND = new int[6];

    private final Writer writer;

    private SoupTest(long seed) {
        writer = new Writer(seed);
    }

    private int below(int n) {
        return writer.below(n);
    }

    private void spoil() {
        List<String> tokens = writer.tokens;
        for (int k = below(4); k > 0 && tokens.size() > 1; k--) {
            int at = below(tokens.size());
            switch (below(6)) {
                case 0: tokens.remove(at); break;
                case 1: tokens.add(at, tokens.get(at)); break;
                case 2: tokens.set(at, WORDS.get(below(WORDS.size()))); break;
                case 3: tokens.add(at, WORDS.get(below(WORDS.size()))); break;
                case 4: tokens.add(at, tokens.get(below(tokens.size()))); break;
                default: tokens.set(at, tokens.get(below(tokens.size())));
            }
        }
    }

    /** A run of tokens once more, often a whole statement: names and places that are told already, kinds that are full. */
    private void repeat() {
        List<String> tokens = writer.tokens;
        List<Integer> ends = new ArrayList<>();
        for (int k = 0; k < tokens.size(); k++) {
            if (tokens.get(k).equals(";")) {
                ends.add(k + 1);
            }
        }
        for (int many = below(3); many > 0 && ends.size() > 1; many--) {
            int k = below(ends.size() - 1);
            List<String> statement = new ArrayList<>(tokens.subList(ends.get(k), ends.get(k + 1)));
            for (int times = 1 + below(4); times > 0; times--) {
                tokens.addAll(statement);
                if (below(3) == 0 && statement.size() > 3) {
                    tokens.set(tokens.size() - 2, String.valueOf(below(10)));
                }
            }
        }
    }

    /** Puts much on what is open at once, ahead of parts and facts, so that it is often the text's only fault. */
    private void nest() {
        List<String> tokens = writer.tokens;
        List<Integer> places = new ArrayList<>();
        for (int k = 1; k < tokens.size(); k++) {
            if (AHEAD_OF_PARTS.contains(tokens.get(k - 1)) || AHEAD_OF_FACTS.contains(tokens.get(k - 1))) {
                places.add(k);
            }
        }
        for (int k = below(9); k > 0 && !places.isEmpty(); k--) {
            int at = places.get(below(places.size()));
            boolean fact = AHEAD_OF_FACTS.contains(tokens.get(at - 1)) && below(4) > 0;
            tokens.add(at, fact ? List.of("[", "not").get(below(2)) : List.of("(", "(", "spin", "max").get(below(4)));
            if (tokens.get(at).equals("max")) {
                tokens.add(at + 1, "(");
            }
        }
    }

    private String glue(String text) {
        StringBuilder out = new StringBuilder(text);
        for (int k = below(6) - 3; k > 0 && out.length() > 1; k--) {
            int at = below(out.length());
            if (out.charAt(at) == ' ' || out.charAt(at) == '\n' || below(8) == 0) {
                out.deleteCharAt(at);
            }
        }
        return below(10) == 0 ? out.substring(0, below(out.length() + 1)) : out.toString();
    }

    private void square() {
        writer.square();
        if (below(2) == 0) {
            repeat();
        }
        if (below(3) == 0) {
            nest();
        }
        if (below(2) == 0) {
            spoil();
        }
        String text = glue(writer.text());
        if (text.length() > 1600) {
            return;
        }
        Reader reader = Reader.ofSquare(text);
        NoonHat x = new NoonHat();
        CHECK.due("square " + text, Check.square(x, text), reader.fault == 0 ? reader.statements : NoonHat.NONE);
        due(text, x, reader);
    }

    private void question(NoonHat x) {
        boolean test = below(2) == 0;
        writer.tokens.clear();
        writer.tokens.add(List.of("total", "most", "least", "first", "last", "often").get(below(3) + (test ? 3 : 0)));
        if (test) {
            writer.test(QUESTION_WORDS, 2);
        } else {
            writer.sum(QUESTION_WORDS, 2);
        }
        if (below(2) == 0) {
            nest();
        } else {
            spoil();
        }
        String text = glue(writer.text());
        if (text.length() > 1600) {
            return;
        }
        Reader reader = Reader.ofQuestion(text);
        CHECK.due("ask " + text, Check.ask(x, text) == NoonHat.NOTHING, reader.fault != 0);
        due(text, x, reader);
    }

    private static void due(String text, NoonHat x, Reader reader) {
        CHECK.due("fault of " + text, x.fault(0), reader.fault);
        CHECK.due("place of " + text, x.fault(1), reader.place);
        FOUND[reader.fault]++;
    }

    public static void main(String[] args) {
        int runs = args.length > 0 ? Integer.parseInt(args[0]) : 40000;
        for (int seed = 1; seed <= runs; seed++) {
            SoupTest soup = new SoupTest(seed);
            soup.square();
            NoonHat x = Check.told("square 4 by 5 tower 1 2 high 3;law a;person p at 0 0 tall 1 pace 0 does a;");
            for (int k = 0; k < 3; k++) {
                soup.question(x);
            }
        }
        for (int fault = 0; fault < FOUND.length; fault++) {
            CHECK.due("texts of fault " + fault + " are many: " + FOUND[fault], FOUND[fault] > runs / 50, true);
        }
        CHECK.end();
    }
}
