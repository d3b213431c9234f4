import java.util.Random;

/** Calls with any arguments in any order: none throws, and none that is refused changes what is told. */
public final class RoughTest {
    private static final Check CHECK = new Check("RoughTest");
    private static final int[] EDGES = {Integer.MIN_VALUE, Integer.MIN_VALUE + 1, -2, -1, 0, 1, 2, 5, 6, 7, 8, 9, 11, 12,
        32, 33, 39, 40, 41, 60, 61, 80, 81, 99, 100, 101, 255, 998, 999, 1000, 1600, 1601, Integer.MAX_VALUE - 1,
        Integer.MAX_VALUE};

    private static int any(Random random) {
        return random.nextInt(3) == 0 ? random.nextInt(7) : EDGES[random.nextInt(EDGES.length)];
    }

    private static void call(NoonHat x, Random r, String text) {
        switch (r.nextInt(34)) {
            case 0: x.feed(r.nextInt(), r.nextInt(), any(r), any(r), any(r)); break;
            case 1: x.end(any(r)); break;
            case 2: x.square(); break;
            case 3: x.fault(any(r)); break;
            case 4: x.has(any(r)); break;
            case 5: x.letter(any(r), any(r), any(r)); break;
            case 6: x.person(any(r), any(r)); break;
            case 7: x.place(any(r), any(r)); break;
            case 8: x.kept(any(r), any(r)); break;
            case 9: x.toss(any(r), any(r), any(r)); break;
            case 10: x.likely(any(r), any(r)); break;
            case 11: x.stand(any(r), any(r)); break;
            case 12: x.change(any(r), any(r)); break;
            case 13: x.later(any(r), any(r)); break;
            case 14: x.lasts(any(r), any(r)); break;
            case 15: x.hatless(); break;
            case 16: x.see(); break;
            case 17: x.wears(any(r)); break;
            case 18: x.asked(any(r)); break;
            case 19: x.move(any(r), any(r), any(r)); break;
            case 20: x.train(any(r), any(r), any(r)); break;
            case 21: x.noons(any(r)); break;
            case 22: x.chance(any(r)); break;
            case 23: x.undo(); break;
            case 24: x.seed(any(r)); break;
            case 25: x.ask(); break;
            case 26: x.image(); break;
            case 27: x.octet(any(r)); break;
            case 28: x.on(); break;
            case 29: x.status(any(r)); break;
            case 30: Check.ask(x, "total gets*spin force/column"); break;
            case 31: Check.on(x, Check.picture(x)); break;
            case 32: Check.see(x, r.nextInt(3), 255, r.nextInt(4)); break;
            default: if (r.nextInt(4) == 0) { Check.square(x, text); }
        }
    }

    public static void main(String[] args) {
        for (int seed = 1; seed <= 1500; seed++) {
            Writer writer = new Writer(seed);
            writer.square();
            String text = writer.text();
            Random random = new Random(seed);
            NoonHat x = new NoonHat();
            if (text.length() <= 1600 && seed % 10 != 0) {
                Check.square(x, text);
            }
            for (int k = 0; k < 400; k++) {
                call(x, random, text);
            }
            CHECK.due("a noon in bounds", x.has(5) >= 0 && x.has(5) <= 999, true);
            CHECK.due("acts in bounds", x.has(11) >= 0 && x.has(11) <= 20, true);
        }
        CHECK.end();
    }
}
