import java.util.ArrayList;
import java.util.List;

/** What must hold of the faults of any text that is good: where it is cut, and where a wrong byte stands in it. */
public final class GrammarTest {
    private static final Check CHECK = new Check("GrammarTest");

    private static void due(String text, int fault, int place) {
        NoonHat x = new NoonHat();
        Check.square(x, text);
        CHECK.due("fault of " + text, x.fault(0), fault);
        CHECK.due("place of " + text, x.fault(1), place);
    }

    private static void cutAndSpoil(long seed) {
        Writer writer = new Writer(seed);
        writer.square();
        List<Integer> places = new ArrayList<>();
        String text = writer.text(places);
        if (text.length() > 1500 || writer.statements() > 60) {
            return;
        }
        for (int k = 0; k < places.size(); k++) {
            int at = places.get(k);
            boolean whole = k > 0 && writer.tokens.get(k - 1).equals(";");
            due(text.substring(0, at), whole ? 0 : 1, whole ? -1 : at);
            due(text.substring(0, at) + "?" + text.substring(at), 1, at);
            due(text.substring(0, at) + "Zz " + text.substring(at), 1, at);
            due(text.substring(0, at) + (char) 200 + text.substring(at), 1, at);
        }
        due(text + " \n;", writer.statements() < 60 ? 1 : 5, text.length() + 2);
    }

    private static void blanksMatterNot(long seed) {
        Writer writer = new Writer(seed);
        writer.square();
        String some = writer.text();
        String others = writer.text();
        if (some.length() > 1600 || others.length() > 1600 || writer.statements() > 60) {
            return;
        }
        NoonHat a = Check.told(some);
        NoonHat b = Check.told(others);
        for (int what = 0; what < 12; what++) {
            CHECK.due("has(" + what + ") of " + some, a.has(what), b.has(what));
        }
        for (int n = 1; n < 10; n++) {
            CHECK.due("later(" + n + ") of " + some, a.later(n, 0), b.later(n, 0));
        }
    }

    /** Any bytes at all: it answers, and the fault lies in the text. */
    private static void anyBytes(long seed) {
        Writer writer = new Writer(seed);
        writer.square();
        int[] bytes = Check.bytesOf(writer.text());
        if (bytes.length > 1600) {
            return;
        }
        for (int k = 1 + writer.below(3); k > 0; k--) {
            bytes[writer.below(bytes.length)] = writer.below(2) == 0 ? writer.below(256) : bytes[writer.below(bytes.length)];
        }
        NoonHat x = new NoonHat();
        Check.tape(x, bytes);
        int n = x.square();
        boolean in = n > 0 ? x.fault(0) == 0 && x.fault(1) == -1
                : x.fault(0) >= 1 && x.fault(0) <= 5 && x.fault(1) >= 0 && x.fault(1) <= bytes.length;
        CHECK.due("a fault in the text, seed " + seed, in, true);
    }

    public static void main(String[] args) {
        for (int seed = 1; seed <= 150; seed++) {
            cutAndSpoil(seed);
        }
        for (int seed = 1; seed <= 1000; seed++) {
            blanksMatterNot(seed);
        }
        for (int seed = 1; seed <= 4000; seed++) {
            anyBytes(seed);
        }
        CHECK.end();
    }
}
