import java.util.ArrayList;
import java.util.List;
import java.util.TreeSet;

/** The document once more, in its slowest and plainest form: nothing is held twice, nothing is hurried. */
final class Model {
    /** What a formula may ask of: by the document's words. */
    interface Asked {
        int of(String word);
    }

    /** A sum or a test (1 or 0); spin needs its operand, so it is handed over. */
    interface Node {
        int value(Asked about);
    }

    static final class Person {
        int column;
        int row;
        int tall;
        int pace;
        int law;
        int way;
        int force;
        int wore;

        Person copy() {
            Person p = new Person();
            p.column = column;
            p.row = row;
            p.tall = tall;
            p.pace = pace;
            p.law = law;
            p.way = way;
            p.force = force;
            p.wore = wore;
            return p;
        }
    }

    static final class Flown {
        int who = -1;
        int beat;
        int column;
        int row;
    }

    // the square
    int columns;
    int rows;
    int towerColumn;
    int towerRow;
    int high;
    int laws;
    int gust;
    final TreeSet<Integer> walls = new TreeSet<>();
    Node winds;
    Node may;
    // how all stands
    int noon;
    int wearer = -1;
    int terms;
    List<Person> people = new ArrayList<>();
    List<int[]> kept = new ArrayList<>();
    List<Model> acts = new ArrayList<>();
    long seed = 1;
    int gusts;

    static int held(long v) {
        return v > 1000000 ? 1000000 : v < -1000000 ? -1000000 : (int) v;
    }

    Model snapshot() {
        Model m = new Model();
        m.columns = columns;
        m.rows = rows;
        m.towerColumn = towerColumn;
        m.towerRow = towerRow;
        m.high = high;
        m.laws = laws;
        m.gust = gust;
        m.walls.addAll(walls);
        m.winds = winds;
        m.may = may;
        m.noon = noon;
        m.wearer = wearer;
        m.terms = terms;
        for (Person p : people) {
            m.people.add(p.copy());
        }
        m.kept.addAll(kept);
        return m;
    }

    int draw(int m) {
        seed = (1103515245L * seed + 12345) % (1L << 31);
        return (int) ((seed / 64) % m);
    }

    boolean inside(int c, int r) {
        return c >= 0 && c < columns && r >= 0 && r < rows;
    }

    boolean wall(int c, int r) {
        return walls.contains(c * 100 + r);
    }

    static int columnStep(int way) {
        return way == 2 || way == 3 || way == 4 ? 1 : way == 6 || way == 7 || way == 8 ? -1 : 0;
    }

    static int rowStep(int way) {
        return way == 1 || way == 2 || way == 8 ? -1 : way == 4 || way == 5 || way == 6 ? 1 : 0;
    }

    private int[] drift(int[] hat, int way) {
        int c = hat[0] + columnStep(way);
        int r = hat[1] + rowStep(way);
        c = c < 0 ? 0 : c >= columns ? columns - 1 : c;
        r = r < 0 ? 0 : r >= rows ? rows - 1 : r;
        return wall(c, r) ? hat : new int[] {c, r};
    }

    private static int far(int[] a, int[] b) {
        return Math.max(Math.abs(a[0] - b[0]), Math.abs(a[1] - b[1]));
    }

    Flown fly(int way, int force, int atNoon, boolean draws) {
        int[] hat = {towerColumn, towerRow};
        for (int k = 0; k < force; k++) {
            hat = drift(hat, way);
        }
        List<int[]> places = new ArrayList<>();
        for (Person p : people) {
            places.add(new int[] {p.column, p.row});
        }
        Flown out = new Flown();
        int height = high;
        while (out.who < 0 && height > 0) {
            out.beat++;
            int ahead = height;
            int wind = winds == null ? 0
                    : Math.floorMod(winds.value(w -> w.equals("noon") ? atNoon : ahead), 9);
            if (draws && draw(100) < gust) {
                wind = draw(9);
                gusts++;
            }
            hat = drift(hat, wind);
            height--;
            for (int p = 0; p < people.size(); p++) {
                for (int k = 0; k < people.get(p).pace; k++) {
                    places.set(p, next(places, p, hat));
                }
            }
            out.who = catcher(places, hat, height, atNoon);
        }
        out.column = hat[0];
        out.row = hat[1];
        return out;
    }

    private int[] next(List<int[]> places, int p, int[] hat) {
        int[] best = places.get(p);
        for (int way = 1; way <= 8; way++) {
            int[] to = {places.get(p)[0] + columnStep(way), places.get(p)[1] + rowStep(way)};
            boolean free = inside(to[0], to[1]) && !wall(to[0], to[1]);
            for (int[] other : places) {
                free &= far(other, to) > 0;
            }
            if (free && far(to, hat) < far(best, hat)) {
                best = to;
            }
        }
        return best;
    }

    private int catcher(List<int[]> places, int[] hat, int height, int atNoon) {
        int best = -1;
        for (int p = 0; p < people.size(); p++) {
            Person one = people.get(p);
            int termsOfHis = p == wearer ? terms : 0;
            boolean can = far(places.get(p), hat) <= 1 && one.tall >= height;
            can = can && (may == null || may.value(w -> {
                switch (w) {
                    case "noon": return atNoon;
                    case "height": return height;
                    case "tall": return one.tall;
                    case "pace": return one.pace;
                    case "wore": return one.wore;
                    default: return termsOfHis;
                }
            }) == 1);
            if (!can) {
                continue;
            }
            if (best < 0 || one.tall > people.get(best).tall || one.tall == people.get(best).tall
                    && far(places.get(p), hat) < far(places.get(best), hat)) {
                best = p;
            }
        }
        return best;
    }

    static int wayOf(int k) {
        return k == 0 ? 0 : (k - 1) / 4 + 1;
    }

    static int forceOf(int k) {
        return k == 0 ? 0 : (k - 1) % 4;
    }

    int whoGets(int k, int atNoon) {
        return fly(wayOf(k), forceOf(k), atNoon, false).who;
    }

    int countGets(int person) {
        int n = 0;
        for (int k = 0; k < 33; k++) {
            n += whoGets(k, noon) == person ? 1 : 0;
        }
        return n;
    }

    /** One noon; tells the beat. */
    int play(boolean draws) {
        int way = wearer < 0 ? 0 : people.get(wearer).way;
        int force = wearer < 0 ? 0 : people.get(wearer).force;
        Flown f = fly(way, force, noon, draws);
        terms = f.who < 0 ? 0 : f.who == wearer ? Math.min(99, terms + 1) : 1;
        wearer = f.who;
        if (wearer >= 0) {
            people.get(wearer).wore = Math.min(999, people.get(wearer).wore + 1);
        }
        kept.add(new int[] {noon, wearer < 0 ? 255 : wearer, f.beat});
        noon++;
        return f.beat;
    }

    int whoStands(int c, int r) {
        for (int p = 0; p < people.size(); p++) {
            if (people.get(p).column == c && people.get(p).row == r) {
                return p;
            }
        }
        return -1;
    }

    int[] stand(int person) {
        int[] best = {-1, -1, -1};
        for (int r = 0; r < rows; r++) {
            for (int c = 0; c < columns; c++) {
                if (wall(c, r) || whoStands(c, r) >= 0 && whoStands(c, r) != person) {
                    continue;
                }
                Model m = snapshot();
                m.people.get(person).column = c;
                m.people.get(person).row = r;
                int n = m.countGets(person);
                if (n > best[2]) {
                    best = new int[] {c, r, n};
                }
            }
        }
        return best;
    }

    int[] change(int person) {
        int way = wearer < 0 ? 0 : people.get(wearer).way;
        int force = wearer < 0 ? 0 : people.get(wearer).force;
        int[] best = null;
        for (int k = 0; k < 33; k++) {
            int round;
            if (wayOf(k) == way) {
                round = 0;
            } else if (wayOf(k) == 0 || way == 0) {
                round = 1;
            } else {
                int forth = Math.floorMod(wayOf(k) - way, 8);
                round = Math.min(forth, 8 - forth);
            }
            int off = round + Math.abs(force - forceOf(k));
            if (whoGets(k, noon) == person && (best == null || off < best[2])) {
                best = new int[] {wayOf(k), forceOf(k), off};
            }
        }
        return best;
    }

    int wears(int law, int k) {
        int bits = 0;
        for (int t = 0; t < 33; t++) {
            int who = whoGets(t, noon + k);
            if (who < 0 && law == 255) {
                bits |= 64;
            }
            if (who >= 0 && people.get(who).law == law) {
                bits |= 1 << who;
            }
        }
        return bits;
    }

    int questionPart(int p, String word) {
        Person one = people.get(p);
        switch (word) {
            case "number": return p;
            case "column": return one.column;
            case "row": return one.row;
            case "tall": return one.tall;
            case "pace": return one.pace;
            case "wore": return one.wore;
            case "terms": return p == wearer ? terms : 0;
            case "noon": return noon;
            case "force": return one.force;
            case "gets": return countGets(p);
            case "way": return one.way;
            default: throw new IllegalStateException(word);
        }
    }

    long answer(String kind, Node node) {
        long first = -1;
        long last = -1;
        long often = 0;
        long total = 0;
        long most = 0;
        long least = 0;
        for (int k = 0; k < people.size(); k++) {
            int p = k;
            int v = node.value(w -> questionPart(p, w));
            if (v == 1) {
                first = first < 0 ? p : first;
                last = p;
                often++;
            }
            total += v;
            most = p == 0 || v > most ? v : most;
            least = p == 0 || v < least ? v : least;
        }
        switch (kind) {
            case "first": return first;
            case "last": return last;
            case "often": return often;
            case "total": return total;
            case "most": return most;
            default: return least;
        }
    }

    int[] picture() {
        List<Integer> out = new ArrayList<>(List.of(noon / 256, noon % 256, wearer + 1, terms));
        for (Person p : people) {
            out.addAll(List.of(p.column, p.row, p.way, p.force, p.wore / 256, p.wore % 256));
        }
        int c = 47;
        for (int one : out) {
            c = (3 * c + one) % 251;
        }
        out.add(c);
        return out.stream().mapToInt(Integer::intValue).toArray();
    }
}
