import java.util.Arrays;

/** Counts the answers that are not as due, and puts texts on an object's tape. */
final class Check {
    private final String name;
    private String sentence = "";
    private int done = 0;
    private int wrong = 0;

    Check(String name) {
        this.name = name;
    }

    /** Names the sentence of the document that the answers from here on rest on. */
    void sentence(String words) {
        sentence = words;
    }

    void due(String what, long got, long want) {
        done++;
        if (got != want) {
            wrong++;
            if (wrong <= 40) {
                String why = sentence.isEmpty() ? "" : " (\"" + sentence + "\")";
                System.out.println(name + ": " + what + " answered " + got + ", due is " + want + why);
            }
        }
    }

    void due(String what, boolean got, boolean want) {
        due(what, got ? 1 : 0, want ? 1 : 0);
    }

    void end() {
        System.out.println(name + ": " + done + " answers, " + wrong + " not as due");
        if (wrong != 0) {
            System.exit(1);
        }
    }

    /** The text, with a ^ ahead of the place that is due and not in it, is refused as a square. */
    void bad(int fault, String marked) {
        NoonHat x = new NoonHat();
        due("square " + marked, square(x, marked.replace("^", "")), NoonHat.NONE);
        due("fault of " + marked, x.fault(0), fault);
        due("place of " + marked, x.fault(1), marked.indexOf('^'));
        due("refused of " + marked, x.status(1), 1);
        due("columns of " + marked, x.has(0), 0);
    }

    void good(int statements, String text) {
        NoonHat x = new NoonHat();
        due("square " + text, square(x, text), statements);
        due("fault of " + text, x.fault(0), 0);
        due("place of " + text, x.fault(1), NoonHat.NONE);
        due("refused of " + text, x.status(1), 0);
    }

    /** The same of a question, asked of a square. */
    void badAsk(String square, int fault, String marked) {
        NoonHat x = told(square);
        due("ask " + marked, ask(x, marked.replace("^", "")), NoonHat.NOTHING);
        due("fault of " + marked, x.fault(0), fault);
        due("place of " + marked, x.fault(1), marked.indexOf('^'));
    }

    void goodAsk(String square, long answer, String text) {
        NoonHat x = told(square);
        due("ask " + text, ask(x, text), answer);
        due("fault of " + text, x.fault(0), 0);
        due("place of " + text, x.fault(1), NoonHat.NONE);
    }

    /** A text n times over, with # a letter of its own each time, @ and % a column and a row of four columns. */
    static String many(String part, int n) {
        StringBuilder out = new StringBuilder();
        for (int k = 0; k < n; k++) {
            out.append(part.replace("#", String.valueOf((char) ('a' + k % 26))).replace("@", String.valueOf(k % 4))
                    .replace("%", String.valueOf(k / 4)));
        }
        return out.toString();
    }

    /** Bytes and behind them the one that ends an image. */
    static int[] sealed(int... bytes) {
        int[] out = Arrays.copyOf(bytes, bytes.length + 1);
        int seal = 47;
        for (int one : bytes) {
            seal = (3 * seal + one) % 251;
        }
        out[bytes.length] = seal;
        return out;
    }

    static int[] bytesOf(String text) {
        int[] bytes = new int[text.length()];
        for (int k = 0; k < bytes.length; k++) {
            bytes[k] = text.charAt(k) & 255;
        }
        return bytes;
    }

    /** Puts these bytes, and them alone, on the tape. */
    static void tape(NoonHat x, int... bytes) {
        x.end(0);
        for (int from = 0; from < bytes.length; from += 20) {
            int[] five = new int[5];
            for (int k = 0; k < 20; k++) {
                int one = from + k < bytes.length ? bytes[from + k] : 32;
                five[k / 4] = five[k / 4] << 8 | one;
            }
            x.feed(five[0], five[1], five[2], five[3], five[4]);
        }
        x.end(bytes.length);
    }

    static int square(NoonHat x, String text) {
        tape(x, bytesOf(text));
        return x.square();
    }

    static long ask(NoonHat x, String text) {
        tape(x, bytesOf(text));
        return x.ask();
    }

    static int see(NoonHat x, int... bytes) {
        tape(x, bytes);
        return x.see();
    }

    static boolean on(NoonHat x, int... bytes) {
        tape(x, bytes);
        return x.on();
    }

    static int[] picture(NoonHat x) {
        int[] bytes = new int[x.image()];
        for (int k = 0; k < bytes.length; k++) {
            bytes[k] = x.octet(k);
        }
        return bytes;
    }

    /** Brings an object to a noon by an image; the people stay where they are, all having worn it so often. */
    static NoonHat at(NoonHat x, int noon, int wearer, int terms, int wore) {
        int[] bytes = Arrays.copyOf(picture(x), 4 + 6 * x.has(3));
        bytes[0] = noon / 256;
        bytes[1] = noon % 256;
        bytes[2] = wearer + 1;
        bytes[3] = terms;
        for (int p = 0; p < x.has(3); p++) {
            bytes[8 + 6 * p] = wore / 256;
            bytes[9 + 6 * p] = wore % 256;
        }
        if (!on(x, sealed(bytes))) {
            throw new IllegalStateException("no image of noon " + noon);
        }
        return x;
    }

    static NoonHat told(String text) {
        NoonHat x = new NoonHat();
        if (square(x, text) == NoonHat.NONE) {
            throw new IllegalStateException("fault " + x.fault(0) + " at " + x.fault(1) + " in " + text);
        }
        return x;
    }
}
