/** Counts the answers that are not as due, and puts texts on an object's tape. */
final class Check {
    private final String name;
    private int done = 0;
    private int wrong = 0;

    Check(String name) {
        this.name = name;
    }

    void due(String what, long got, long want) {
        done++;
        if (got != want) {
            wrong++;
            if (wrong <= 40) {
                System.out.println(name + ": " + what + " answered " + got + ", due is " + want);
            }
        }
    }

    void due(String what, boolean got, boolean want) {
        due(what, got ? 1 : 0, want ? 1 : 0);
    }

    void end() {
        System.out.println(name + ": " + done + " answers, " + wrong + " not as due");
        if (wrong != 0) {
            System.exit(1);
        }
    }

    static int[] bytesOf(String text) {
        int[] bytes = new int[text.length()];
        for (int k = 0; k < bytes.length; k++) {
            bytes[k] = text.charAt(k) & 255;
        }
        return bytes;
    }

    /** Puts these bytes, and them alone, on the tape. */
    static void tape(NoonHat x, int... bytes) {
        x.end(0);
        for (int from = 0; from < bytes.length; from += 20) {
            int[] five = new int[5];
            for (int k = 0; k < 20; k++) {
                int one = from + k < bytes.length ? bytes[from + k] : 32;
                five[k / 4] = five[k / 4] << 8 | one;
            }
            x.feed(five[0], five[1], five[2], five[3], five[4]);
        }
        x.end(bytes.length);
    }

    static int square(NoonHat x, String text) {
        tape(x, bytesOf(text));
        return x.square();
    }

    static long ask(NoonHat x, String text) {
        tape(x, bytesOf(text));
        return x.ask();
    }

    static int see(NoonHat x, int... bytes) {
        tape(x, bytes);
        return x.see();
    }

    static boolean on(NoonHat x, int... bytes) {
        tape(x, bytes);
        return x.on();
    }

    static int[] picture(NoonHat x) {
        int[] bytes = new int[x.image()];
        for (int k = 0; k < bytes.length; k++) {
            bytes[k] = x.octet(k);
        }
        return bytes;
    }

    static NoonHat told(String text) {
        NoonHat x = new NoonHat();
        if (square(x, text) == NoonHat.NONE) {
            throw new IllegalStateException("fault " + x.fault(0) + " at " + x.fault(1) + " in " + text);
        }
        return x;
    }
}
