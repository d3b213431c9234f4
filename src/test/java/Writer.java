import java.util.ArrayList;
import java.util.List;
import java.util.Random;

/** Makes random squares and questions: the text for the object, and the same for the model. */
final class Writer {
    final Random random;
    final List<String> tokens = new ArrayList<>();
    private int open = 0;
    private List<String> parts = List.of();

    Writer(long seed) {
        random = new Random(seed);
    }

    int below(int n) {
        return random.nextInt(n);
    }

    private void say(String... words) {
        tokens.addAll(List.of(words));
    }

    private void say(int n) {
        String text = String.valueOf(n);
        if (text.length() < 4 && below(8) == 0) {
            text = "0" + text;
        }
        tokens.add(text);
    }

    private static boolean plain(String token) {
        return Character.isLetterOrDigit(token.charAt(0));
    }

    /** The text of the tokens, and the place of each in it. */
    String text(List<Integer> places) {
        StringBuilder out = new StringBuilder();
        String before = ";";
        for (String token : tokens) {
            int blanks = below(6) == 0 ? 1 + below(3) : 0;
            if (plain(before) && plain(token)) {
                blanks = Math.max(1, blanks);
            }
            for (int k = 0; k < blanks; k++) {
                out.append(below(3) == 0 ? '\n' : ' ');
            }
            places.add(out.length());
            out.append(token);
            before = token;
        }
        return out.toString();
    }

    String text() {
        return text(new ArrayList<>());
    }

    // ---- formulas

    Model.Node sum(List<String> words, int size) {
        parts = words;
        open = 0;
        return sum(size);
    }

    Model.Node test(List<String> words, int size) {
        parts = words;
        open = 0;
        return test(size);
    }

    private Model.Node sum(int size) {
        Model.Node left = product(size);
        for (int k = below(3); k > 0 && size > 0; k--) {
            boolean plus = below(2) == 0;
            say(plus ? "+" : "-");
            Model.Node a = left;
            Model.Node b = product(size - 1);
            left = x -> Model.held(plus ? (long) a.value(x) + b.value(x) : (long) a.value(x) - b.value(x));
        }
        return left;
    }

    private Model.Node product(int size) {
        Model.Node left = part(size);
        for (int k = below(5) - 2; k > 0 && size > 0; k--) {
            boolean times = below(2) == 0;
            say(times ? "*" : "/");
            Model.Node a = left;
            Model.Node b = part(size - 1);
            left = x -> {
                long p = a.value(x);
                long q = b.value(x);
                if (times) {
                    return Model.held(p * q);
                }
                return q == 0 ? 0 : (int) Math.floor((double) p / (double) q);
            };
        }
        return left;
    }

    private Model.Node part(int size) {
        int kind = below(8);
        if (kind == 0 && size > 0 && open < 6) {
            say("(");
            open++;
            Model.Node inner = sum(size - 1);
            open--;
            say(")");
            return inner;
        }
        if (kind == 1 && size > 0 && open < 6) {
            boolean least = below(2) == 0;
            say(least ? "min" : "max", "(");
            open++;
            Model.Node a = sum(size - 1);
            say(",");
            Model.Node b = sum(size - 1);
            open--;
            say(")");
            return x -> least ? Math.min(a.value(x), b.value(x)) : Math.max(a.value(x), b.value(x));
        }
        if (kind == 2 && parts.contains("gets") && size > 0 && open < 6) {
            say("spin");
            open++;
            Model.Node a = part(size - 1);
            open--;
            return x -> a.value(x) == x.of("way") ? 1 : 0;
        }
        if (kind <= 4) {
            int n = below(5) == 0 ? below(10000) : below(10);
            say(n);
            return x -> n;
        }
        String word = parts.get(below(parts.size()));
        say(word);
        return x -> x.of(word);
    }

    private Model.Node test(int size) {
        Model.Node left = both(size);
        for (int k = below(4) - 2; k > 0 && size > 0; k--) {
            say("or");
            Model.Node a = left;
            Model.Node b = both(size - 1);
            left = x -> a.value(x) == 1 || b.value(x) == 1 ? 1 : 0;
        }
        return left;
    }

    private Model.Node both(int size) {
        Model.Node left = fact(size);
        for (int k = below(4) - 2; k > 0 && size > 0; k--) {
            say("and");
            Model.Node a = left;
            Model.Node b = fact(size - 1);
            left = x -> a.value(x) == 1 && b.value(x) == 1 ? 1 : 0;
        }
        return left;
    }

    private Model.Node fact(int size) {
        int kind = below(8);
        if (kind == 0 && open < 6) {
            say("not");
            open++;
            Model.Node a = fact(size);
            open--;
            return x -> 1 - a.value(x);
        }
        if (kind == 1 && size > 0 && open < 6) {
            say("[");
            open++;
            Model.Node a = test(size - 1);
            open--;
            say("]");
            return a;
        }
        if (kind == 2) {
            say("all");
            return x -> 1;
        }
        Model.Node a = sum(size - 1);
        String sign = List.of("<", ">", "=").get(below(3));
        say(sign);
        Model.Node b = sum(size - 1);
        return x -> {
            int order = Integer.compare(a.value(x), b.value(x));
            return sign.equals("<") && order < 0 || sign.equals(">") && order > 0
                    || sign.equals("=") && order == 0 ? 1 : 0;
        };
    }

    // ---- squares

    /** A random square of some statements; the tokens are the text's. */
    Model square() {
        Model m = new Model();
        tokens.clear();
        m.columns = 2 + below(8);
        m.rows = 2 + below(8);
        if (below(2) == 0) {
            m.columns = Math.min(m.columns, 4);
            m.rows = Math.min(m.rows, 4);
        }
        m.towerColumn = below(m.columns);
        m.towerRow = below(m.rows);
        m.high = 1 + below(9);
        say("square");
        say(m.columns);
        say("by");
        say(m.rows);
        say("tower");
        say(m.towerColumn);
        say(m.towerRow);
        say("high");
        say(m.high);
        say(";");
        int wishes = 3 + below(20);
        for (int k = 0; k < wishes; k++) {
            statement(m, below(11));
        }
        return m;
    }

    private void statement(Model m, int kind) {
        if (kind <= 1 && m.laws < 6) {
            say("law", "l" + (char) ('a' + m.laws), ";");
            m.laws++;
        } else if (kind <= 6 && m.laws > 0 && m.people.size() < 6) {
            person(m);
        } else if (kind == 7 && m.walls.size() < 10) {
            int c = below(m.columns);
            int r = below(m.rows);
            if (!m.wall(c, r) && m.whoStands(c, r) < 0 && (c != m.towerColumn || r != m.towerRow)) {
                m.walls.add(c * 100 + r);
                say("wall");
                say(c);
                say(r);
                say(";");
            }
        } else if (kind == 8 && m.winds == null) {
            say("winds");
            m.winds = sum(List.of("noon", "height"), 2);
            say(";");
        } else if (kind == 9 && m.may == null) {
            say("may");
            m.may = test(List.of("noon", "height", "tall", "pace", "wore", "terms"), 2);
            say(";");
        } else if (kind == 10) {
            m.gust = List.of(0, 10, 50, 100).get(below(4));
            say("gust");
            say(m.gust);
            say(";");
        }
    }

    private void person(Model m) {
        Model.Person p = new Model.Person();
        p.column = below(m.columns);
        p.row = below(m.rows);
        if (m.wall(p.column, p.row) || m.whoStands(p.column, p.row) >= 0) {
            return;
        }
        p.tall = below(10);
        p.pace = below(3);
        p.law = below(m.laws);
        say("person", "p" + (char) ('a' + m.people.size()), "at");
        say(p.column);
        say(p.row);
        say("tall");
        say(p.tall);
        say("pace");
        say(p.pace);
        say("does", "l" + (char) ('a' + p.law));
        if (below(3) > 0) {
            p.way = below(9);
            p.force = below(4);
            say("spin");
            say(p.way);
            say("force");
            say(p.force);
        }
        say(";");
        m.people.add(p);
    }

    int statements() {
        return (int) tokens.stream().filter(t -> t.equals(";")).count();
    }
}
