import java.util.ArrayList;
import java.util.Arrays;
import java.util.List;

/** Long random runs, each answer compared with the model's. */
public final class ModelTest {
    private static final Check CHECK = new Check("ModelTest");
    private static final List<String> QUESTION_WORDS = List.of("number", "column", "row", "tall", "pace", "wore",
            "terms", "noon", "force", "gets");

    private final Writer writer;
    private final String run;
    private final NoonHat x = new NoonHat();
    private Model m = new Model();
    private int[] seen = {};
    private int[] picture = {};
    private final int[] refused = new int[6];

    private ModelTest(long seed) {
        writer = new Writer(seed);
        run = "run " + seed + ": ";
    }

    private void due(String what, long got, long want) {
        CHECK.due(run + what, got, want);
    }

    private int wild(int n) {
        return writer.below(12) == 0 ? writer.below(n + 6) - 3 : writer.below(Math.max(n, 1));
    }

    private void newSquare() {
        Model told = writer.square();
        String text = writer.text();
        if (text.length() > 1600 || writer.statements() > 60) {
            return;
        }
        told.seed = m.seed;
        m = told;
        seen = new int[0];
        due("square " + text, Check.square(x, text), writer.statements());
        due("fault", x.fault(0), 0);
        due("place of fault", x.fault(1), -1);
    }

    private void act() {
        m.acts.add(m.snapshot());
        if (m.acts.size() > 20) {
            m.acts.remove(0);
        }
    }

    private boolean one(int p) {
        return p >= 0 && p < m.people.size();
    }

    private void moves() {
        int p = wild(m.people.size());
        int c = wild(m.columns);
        int r = wild(m.rows);
        boolean can = one(p) && m.inside(c, r) && !m.wall(c, r) && m.whoStands(c, r) < 0;
        due("move(" + p + "," + c + "," + r + ")", x.move(p, c, r) ? 1 : 0, can ? 1 : 0);
        if (can) {
            act();
            m.people.get(p).column = c;
            m.people.get(p).row = r;
        } else {
            refused[2]++;
        }
    }

    private void trains() {
        int p = wild(m.people.size());
        int w = wild(9);
        int f = wild(4);
        boolean can = one(p) && w >= 0 && w < 9 && f >= 0 && f < 4
                && (m.people.get(p).way != w || m.people.get(p).force != f);
        due("train(" + p + "," + w + "," + f + ")", x.train(p, w, f) ? 1 : 0, can ? 1 : 0);
        if (can) {
            act();
            m.people.get(p).way = w;
            m.people.get(p).force = f;
        } else {
            refused[2]++;
        }
    }

    private void turns(boolean draws) {
        int n = writer.below(6) == 0 ? wild(130) : 1 + writer.below(5);
        boolean can = n >= 1 && n <= 100 && m.noon + n <= 999;
        int want = -1;
        if (can) {
            act();
            m.gusts = 0;
            want = 0;
            for (int k = 0; k < n; k++) {
                m.play(draws);
                want += m.wearer >= 0 ? 1 : 0;
            }
            want = draws ? m.gusts : want;
        } else {
            refused[3]++;
        }
        due((draws ? "chance(" : "noons(") + n + ")", draws ? x.chance(n) : x.noons(n), want);
    }

    private void undo() {
        boolean can = !m.acts.isEmpty();
        due("undo()", x.undo() ? 1 : 0, can ? 1 : 0);
        if (!can) {
            refused[4]++;
            return;
        }
        List<Model> acts = m.acts;
        long seed = m.seed;
        m = acts.remove(acts.size() - 1);
        m.acts = acts;
        m.seed = seed;
    }

    private void seeds() {
        int s = writer.below(4) == 0 ? -writer.below(100) - 1 : writer.random.nextInt(Integer.MAX_VALUE);
        due("seed(" + s + ")", x.seed(s) ? 1 : 0, s >= 0 ? 1 : 0);
        if (s >= 0) {
            m.seed = s;
        } else {
            refused[5]++;
        }
    }

    private void throwsAhead() {
        int w = wild(9);
        int f = wild(4);
        boolean can = w >= 0 && w < 9 && f >= 0 && f < 4;
        Model.Flown flown = can ? m.fly(w, f, m.noon, false) : null;
        String call = "toss(" + w + "," + f + ")";
        due(call, x.toss(w, f, 0), can ? flown.who : -1);
        due(call, x.toss(w, f, 1), can ? flown.beat : -1);
        due(call, x.toss(w, f, 2), can ? flown.column : -1);
        due(call, x.toss(w, f, 3), can ? flown.row : -1);
        due(call, x.toss(w, f, 4), -1);
        int p = wild(m.people.size());
        int first = -1;
        for (int k = 32; k >= 0 && one(p); k--) {
            first = m.whoGets(k, m.noon) == p ? k : first;
        }
        due("likely(" + p + ", 0)", x.likely(p, 0), first);
        due("likely(" + p + ", 1)", x.likely(p, 1), one(p) ? m.countGets(p) : -1);
        int[] change = one(p) ? m.change(p) : null;
        for (int what = 0; what < 3; what++) {
            due("change(" + p + "," + what + ")", x.change(p, what), change == null ? -1 : change[what]);
        }
        if (writer.below(6) == 0) {
            int[] stand = one(p) ? m.stand(p) : new int[] {-1, -1, -1};
            for (int what = 0; what < 3; what++) {
                due("stand(" + p + "," + what + ")", x.stand(p, what), stand[what]);
            }
        }
    }

    private void nextNoons() {
        int n = writer.below(3) == 0 ? wild(61) : 1 + writer.below(5);
        boolean can = n >= 0 && n <= 60 && m.noon + n <= 999;
        int law = wild(m.laws);
        Model ahead = m.snapshot();
        int count = 0;
        for (int k = 0; k < n && can; k++) {
            ahead.play(false);
            count += ahead.wearer >= 0 && ahead.people.get(ahead.wearer).law == law ? 1 : 0;
        }
        int inForce = ahead.wearer < 0 ? -1 : ahead.people.get(ahead.wearer).law;
        due("later(" + n + ",0)", x.later(n, 0), can ? ahead.wearer : -1);
        due("later(" + n + ",1)", x.later(n, 1), can ? ahead.terms : -1);
        due("later(" + n + ",2)", x.later(n, 2), can ? inForce : -1);
        due("later(" + n + ",3)", x.later(n, 3), -1);
        boolean lawful = can && n > 0 && law >= 0 && law < m.laws;
        due("lasts(" + law + "," + n + ")", x.lasts(law, n), lawful ? count : -1);
        ahead = m.snapshot();
        int none = -1;
        for (int k = 1; k <= 60 && none < 0 && m.noon + k <= 999; k++) {
            ahead.play(false);
            none = ahead.wearer < 0 ? k : -1;
        }
        due("hatless()", x.hatless(), none);
    }

    private void sees() {
        int n = writer.below(5) == 0 ? writer.below(10) : 1 + writer.below(7);
        int[] bytes = new int[n];
        boolean can = n >= 1 && n <= 7 && m.noon + n <= 999;
        for (int k = 0; k < n; k++) {
            bytes[k] = writer.below(3) == 0 ? 255 : writer.below(m.laws + (writer.below(8) == 0 ? 1 : 0) + 1) - 1;
            bytes[k] = bytes[k] < 0 ? 255 : bytes[k];
            can &= bytes[k] == 255 || bytes[k] < m.laws;
        }
        due("see " + Arrays.toString(bytes), Check.see(x, bytes), can ? n : -1);
        if (can) {
            seen = bytes;
        } else {
            refused[1]++;
        }
    }

    private void whoWore() {
        int best = -1;
        int most = -1;
        for (int k = 0; k < seen.length; k++) {
            int bits = m.wears(seen[k], k);
            due("wears(" + k + ")", x.wears(k), bits);
            if (Integer.bitCount(bits) > most) {
                most = Integer.bitCount(bits);
                best = k;
            }
        }
        due("wears(-1)", x.wears(-1), -1);
        due("wears behind", x.wears(seen.length), -1);
        due("asked(0)", x.asked(0), best);
        due("asked(1)", x.asked(1), most);
    }

    private void asks() {
        String kind = List.of("first", "last", "often", "total", "most", "least").get(writer.below(6));
        writer.tokens.clear();
        writer.tokens.add(kind);
        boolean test = List.of("first", "last", "often").contains(kind);
        Model.Node node = test ? writer.test(QUESTION_WORDS, 2) : writer.sum(QUESTION_WORDS, 2);
        String text = writer.text();
        if (text.length() <= 1600) {
            due("ask " + text, Check.ask(x, text), m.answer(kind, node));
            due("fault", x.fault(0), 0);
        }
    }

    private void pictures() {
        picture = m.picture();
        int length = x.image();
        due("image()", length, picture.length);
        for (int k = 0; k < picture.length; k++) {
            due("octet(" + k + ")", x.octet(k), picture[k]);
        }
        due("octet behind", x.octet(picture.length), -1);
        due("octet(-1)", x.octet(-1), -1);
    }

    /** An image of this square, perhaps spoiled, sealed or not: the model reads it by the document's words. */
    private void ons() {
        int[] bytes = picture.clone();
        if (bytes.length == 0) {
            return;
        }
        for (int k = writer.below(3); k > 0; k--) {
            bytes[writer.below(bytes.length - 1)] = List.of(0, 1, 2, 3, 4, 99, 100, 231, 232, 255).get(writer.below(10));
        }
        int seal = 47;
        for (int k = 0; k < bytes.length - 1; k++) {
            seal = (3 * seal + bytes[k]) % 251;
        }
        bytes[bytes.length - 1] = writer.below(10) == 0 ? writer.below(256) : seal;
        boolean can = bytes.length == 5 + 6 * m.people.size() && bytes[bytes.length - 1] == seal;
        can = can && bytes[0] * 256 + bytes[1] <= 999 && bytes[2] <= m.people.size() && bytes[3] <= 99;
        can = can && (bytes[3] == 0) == (bytes[2] == 0);
        List<Integer> places = new ArrayList<>();
        for (int p = 0; p < m.people.size() && can; p++) {
            int at = 4 + 6 * p;
            int place = bytes[at] * 100 + bytes[at + 1];
            can = m.inside(bytes[at], bytes[at + 1]) && !m.walls.contains(place) && !places.contains(place)
                    && bytes[at + 2] <= 8 && bytes[at + 3] <= 3 && bytes[at + 4] * 256 + bytes[at + 5] <= 999;
            places.add(place);
        }
        due("on " + Arrays.toString(bytes), Check.on(x, bytes) ? 1 : 0, can ? 1 : 0);
        if (!can) {
            refused[5]++;
            return;
        }
        m.noon = bytes[0] * 256 + bytes[1];
        m.wearer = bytes[2] - 1;
        m.terms = bytes[3];
        for (int p = 0; p < m.people.size(); p++) {
            Model.Person one = m.people.get(p);
            one.column = bytes[4 + 6 * p];
            one.row = bytes[5 + 6 * p];
            one.way = bytes[6 + 6 * p];
            one.force = bytes[7 + 6 * p];
            one.wore = bytes[8 + 6 * p] * 256 + bytes[9 + 6 * p];
        }
        m.kept.clear();
        m.acts.clear();
    }

    private void looks() {
        int told = Math.min(40, m.kept.size());
        int[] has = {m.columns, m.rows, m.laws, m.people.size(), m.walls.size(), m.noon, m.wearer,
            m.wearer < 0 ? -1 : m.people.get(m.wearer).law, m.terms, told, seen.length, m.acts.size(), -1};
        for (int what = 0; what < has.length; what++) {
            due("has(" + what + ")", x.has(what), has[what]);
        }
        for (int p = 0; p < m.people.size(); p++) {
            Model.Person one = m.people.get(p);
            int[] all = {one.column, one.row, one.tall, one.pace, one.law, one.way, one.force, one.wore, -1};
            for (int what = 0; what < all.length; what++) {
                due("person(" + p + "," + what + ")", x.person(p, what), all[what]);
            }
        }
        for (int k = -1; k <= told; k++) {
            for (int what = -1; what <= 3; what++) {
                boolean is = k >= 0 && k < told && what >= 0 && what < 3;
                due("kept(" + k + "," + what + ")", x.kept(k, what),
                        is ? m.kept.get(m.kept.size() - told + k)[what] : -1);
            }
        }
        for (int c = -1; c <= 9; c++) {
            for (int r = -1; r <= 9; r++) {
                due("place(" + c + "," + r + ")", x.place(c, r), m.wall(c, r) ? 100 : m.whoStands(c, r));
            }
        }
        for (int what = 0; what < 6; what++) {
            due("status(" + what + ")", x.status(what), refused[what]);
        }
    }

    private void step(int kind) {
        switch (kind) {
            case 0: case 1: moves(); break;
            case 2: case 3: trains(); break;
            case 4: case 5: turns(false); break;
            case 6: turns(true); break;
            case 7: undo(); break;
            case 8: seeds(); break;
            case 9: throwsAhead(); break;
            case 10: nextNoons(); break;
            case 11: sees(); break;
            case 12: whoWore(); break;
            case 13: asks(); break;
            case 14: pictures(); break;
            case 15: ons(); break;
            case 16: looks(); break;
            default: if (writer.below(10) == 0) { newSquare(); }
        }
    }

    public static void main(String[] args) {
        int runs = args.length > 0 ? Integer.parseInt(args[0]) : 1500;
        for (int seed = 1; seed <= runs; seed++) {
            ModelTest test = new ModelTest(seed);
            test.newSquare();
            for (int k = 0; k < 60 && test.m.columns > 0; k++) {
                test.step(test.writer.below(18));
            }
            if (test.m.columns > 0) {
                test.looks();
            }
        }
        CHECK.end();
    }
}
