/**
 * Both sides of each boundary that the document's part II names: where the hat goes, who runs where, who gets it,
 * noons, what is kept, gusts. What is due is worked out here by the sentence alone.
 */
public final class EdgeHatTest {
    private static final Check CHECK = new Check("EdgeHatTest");
    private static final String WIDE = "square 9 by 9 tower 4 4 high 1;law a;";
    /** 1 up (a row less), then by the clock. */
    private static final int[] COLUMNS = {0, 0, 1, 1, 1, 0, -1, -1, -1};
    private static final int[] ROWS = {0, -1, -1, 0, 1, 1, 1, 0, -1};

    private static void due(String what, long got, long want) {
        CHECK.due(what, got, want);
    }

    private static String person(String name, int column, int row, int tall, int pace) {
        return "person " + name + " at " + column + " " + row + " tall " + tall + " pace " + pace + " does a;";
    }

    private static void comesTo(String what, NoonHat x, int way, int force, int column, int row) {
        due(what + " toss " + way + " " + force + ": column", x.toss(way, force, 2), column);
        due(what + " toss " + way + " " + force + ": row", x.toss(way, force, 3), row);
    }

    private static int held(int place, int many) {
        return Math.max(0, Math.min(many - 1, place));
    }

    // ---- where the hat goes

    private static void ways() {
        CHECK.sentence("WAYS are 0 none, 1 up (a row less), then by the clock 2 .. 8; force places by its WAY, one by one");
        NoonHat x = Check.told(WIDE);
        for (int way = 0; way <= 8; way++) {
            for (int force = 0; force <= 3; force++) {
                comesTo("", x, way, force, 4 + force * COLUMNS[way], 4 + force * ROWS[way]);
            }
            comesTo("wind " + way, Check.told(WIDE + "winds " + way + ";"), 0, 0, 4 + COLUMNS[way], 4 + ROWS[way]);
        }
        CHECK.sentence("The hat starts on the tower's place, as high as told");
        for (int high = 1; high <= 9; high++) {
            x = Check.told("square 5 by 6 tower 4 1 high " + high + ";");
            comesTo("", x, 0, 0, 4, 1);
            due("beats of high " + high, x.toss(0, 0, 1), high);
        }
    }

    private static void edges() {
        CHECK.sentence("It never leaves the SQUARE (it stays at its edge, column and row by themselves)");
        for (int place = 0; place < 12; place++) {
            int column = place % 3;
            int row = place / 3;
            String head = "square 3 by 4 tower " + column + " " + row;
            NoonHat x = Check.told(head + " high 1;");
            for (int way = 0; way <= 8; way++) {
                for (int force = 0; force <= 3; force++) {
                    comesTo(head, x, way, force, held(column + force * COLUMNS[way], 3), held(row + force * ROWS[way], 4));
                }
                for (int high = 1; high <= 9; high += 2) {
                    comesTo(head + " drifts", Check.told(head + " high " + high + ";winds " + way + ";"), 0, 0,
                            held(column + high * COLUMNS[way], 3), held(row + high * ROWS[way], 4));
                }
            }
        }
    }

    private static void walls() {
        CHECK.sentence("onto a wall it neither goes nor drifts (it stays where it is)");
        for (int way = 1; way <= 8; way++) {
            for (int far = 1; far <= 4; far++) {
                String wall = "wall " + (4 + far * COLUMNS[way]) + " " + (4 + far * ROWS[way]) + ";";
                NoonHat x = Check.told(WIDE + wall);
                for (int force = 0; force <= 3; force++) {
                    int goes = Math.min(force, far - 1);
                    comesTo(wall, x, way, force, 4 + goes * COLUMNS[way], 4 + goes * ROWS[way]);
                }
                for (int high = 1; high <= 4; high++) {
                    int goes = Math.min(high, far - 1);
                    x = Check.told(WIDE.replace("high 1", "high " + high) + wall + "winds " + way + ";");
                    comesTo("drifts " + wall, x, 0, 0, 4 + goes * COLUMNS[way], 4 + goes * ROWS[way]);
                }
            }
        }
        // at the edge the row stays, so the place to the right is meant, and it is a wall
        String corner = "square 3 by 3 tower 1 0 high 1;wall 2 0;";
        comesTo("along the edge", Check.told(corner), 2, 1, 1, 0);
        comesTo("along the edge, drifts", Check.told(corner + "winds 2;"), 0, 0, 1, 0);
        comesTo("the other side", Check.told(corner), 8, 1, 0, 0);
        // a wall on either hand does not hold it
        comesTo("between walls", Check.told(WIDE + "wall 4 3;wall 5 4;"), 2, 1, 5, 3);
    }

    private static void winds() {
        CHECK.sentence("the SUM of winds modulo 9 (0 .. 8, also of what is below 0; 0 without");
        String[] sums = {"0", "1", "8", "9", "10", "17", "18", "19", "9999", "0-1", "0-8", "0-9", "0-10", "0-17", "0-18", "0-19",
            "1000*1000", "9999*9999", "0-9999*9999", "0-1000*1000+1"};
        int[] due = {0, 1, 8, 0, 1, 8, 0, 1, 0, 8, 1, 0, 8, 1, 0, 8, 1, 1, 8, 0};
        for (int k = 0; k < sums.length; k++) {
            NoonHat one = Check.told(WIDE + "winds " + sums[k] + ";");
            comesTo("winds " + sums[k], one, 0, 0, 4 + COLUMNS[due[k]], 4 + ROWS[due[k]]);
        }
        comesTo("without winds", Check.told(WIDE), 0, 0, 4, 4);
        NoonHat x = Check.told(WIDE + "winds 3;");
        Check.square(x, WIDE);
        comesTo("the next square without winds", x, 0, 0, 4, 4);
        CHECK.sentence("height as ahead of the BEAT");
        for (int high = 1; high <= 9; high++) {
            int column = 4;
            int row = 4;
            for (int height = high; height >= 1; height--) {
                column = held(column + COLUMNS[height % 9], 9);
                row = held(row + ROWS[height % 9], 9);
            }
            comesTo("from " + high, Check.told(WIDE.replace("high 1", "high " + high) + "winds height;"), 0, 0, column, row);
        }
        CHECK.sentence("noon (The NOON)");
        x = Check.told(WIDE + "winds noon;");
        for (int noon = 0; noon < 20; noon++) {
            comesTo("noon " + noon, x, 0, 0, 4 + COLUMNS[noon % 9], 4 + ROWS[noon % 9]);
            x.noons(1);
        }
        comesTo("noon 999", Check.at(x, 999, -1, 0, 0), 0, 0, 4, 4);
        comesTo("noon 998", Check.at(x, 998, -1, 0, 0), 0, 0, 3, 3);
    }

    // ---- who runs where

    private static void lower() {
        CHECK.sentence("THEN it is one lower .. is as tall as it is high now at least");
        for (int high = 1; high <= 9; high++) {
            for (int tall = 0; tall <= 9; tall++) {
                NoonHat x = Check.told("square 3 by 3 tower 1 1 high " + high + ";law a;" + person("p", 1, 1, tall, 0));
                due("high " + high + " tall " + tall + " gets it", x.toss(0, 0, 0), 0);
                due("high " + high + " tall " + tall + " in beat", x.toss(0, 0, 1), Math.max(1, high - tall));
            }
        }
        CHECK.sentence("At height 0 (behind that) it is down: HATLESS");
        for (int high = 1; high <= 9; high++) {
            String head = "square 9 by 9 tower 0 0 high " + high + ";law a;";
            due("next to it at height 0", Check.told(head + person("p", 1, 1, 0, 0)).toss(0, 0, 0), 0);
            due("two off at height 0", Check.told(head + person("p", 2, 1, 0, 0)).toss(0, 0, 0), -1);
            due("down in beat", Check.told(head + person("p", 2, 1, 0, 0)).toss(0, 0, 1), high);
            due("nobody", Check.told(head).toss(0, 0, 0), -1);
        }
    }

    private static void steps() {
        CHECK.sentence("pace steps; if one stands next to it, or on its place (by the greater of columns and rows between)");
        for (int pace = 0; pace <= 2; pace++) {
            NoonHat x = Check.told(WIDE + person("p", 4, 4, 0, pace));
            for (int place = 0; place < 81; place++) {
                int far = Math.max(Math.abs(place % 9 - 4), Math.abs(place / 9 - 4));
                x.move(0, place % 9, place / 9);
                due("pace " + pace + " from " + place % 9 + " " + place / 9, x.toss(0, 0, 0), far <= 1 + pace ? 0 : -1);
            }
            for (int high = 1; high <= 5; high++) {
                for (int far = 0; far <= 8; far++) {
                    String head = "square 9 by 2 tower 0 0 high " + high + ";law a;";
                    x = Check.told(head + person("p", far, 1, 0, pace));
                    due("pace " + pace + " high " + high + " far " + far, x.toss(0, 0, 0), far <= 1 + pace * high ? 0 : -1);
                    x = Check.told(head + person("p", far, 1, 9, pace));
                    int beat = pace == 0 ? 1 : Math.max(1, (far - 1 + pace - 1) / pace);
                    due("tall, beat of pace " + pace + " high " + high + " far " + far, x.toss(0, 0, 1),
                            far <= 1 + pace * high ? beat : high);
                }
            }
        }
    }

    private static boolean nextTo(int a, int b) {
        return a != b && Math.abs(a % 9 - b % 9) <= 1 && Math.abs(a / 9 - b / 9) <= 1;
    }

    private static int far(int a, int b) {
        return Math.max(Math.abs(a % 9 - b % 9), Math.abs(a / 9 - b / 9));
    }

    /**
     * One two off the hat runs first and may not have it; another, who can come next to it at one place alone,
     * gets it just when the first did not run there.
     */
    private static void likePlaces() {
        CHECK.sentence("of like ones his own, then by the WAYS 1 .. 8");
        int hat = 40;
        int looks = 0;
        for (int p = 0; p < 81; p++) {
            if (far(p, hat) != 2) {
                continue;
            }
            int goes = -1;
            for (int way = 8; way >= 1; way--) {
                int to = p + COLUMNS[way] + 9 * ROWS[way];
                goes = far(to, hat) == 1 ? to : goes;
            }
            for (int q = 0; q < 81; q++) {
                for (int only = 0; only < 81 && far(q, hat) == 2 && q != p; only++) {
                    if (far(only, hat) == 1 && nextTo(only, q)) {
                        looks += likePlace(p, q, only, goes);
                    }
                }
            }
        }
        due("looked at", looks > 150 ? 1 : 0, 1);
    }

    private static int likePlace(int p, int q, int only, int goes) {
        StringBuilder text = new StringBuilder(WIDE);
        for (int wall = 0; wall < 81; wall++) {
            if (far(wall, 40) == 1 && nextTo(wall, q) && wall != only) {
                if (nextTo(wall, p)) {
                    return 0;
                }
                text.append("wall ").append(wall % 9).append(' ').append(wall / 9).append(';');
            }
        }
        text.append(person("p", p % 9, p / 9, 2, 1)).append(person("q", q % 9, q / 9, 1, 1)).append("may tall=1;");
        due(text + " toss", Check.told(text.toString()).toss(0, 0, 0), only == goes ? -1 : 1);
        return 1;
    }

    private static void ownPlace() {
        CHECK.sentence("of like ones his own");
        // his one nearer place is a wall: he stays, and does not go round it, where he would come next to the hat
        for (int c = -1; c <= 1; c += 2) {
            for (int r = -1; r <= 1; r += 2) {
                String wall = "wall " + (4 + c) + " " + (4 + r) + ";";
                String p = person("p", 4 + 2 * c, 4 + 2 * r, 9, 2);
                due("free", Check.told(WIDE + p).toss(0, 0, 0), 0);
                due(wall, Check.told(WIDE + wall + p).toss(0, 0, 0), -1);
                String beside = person("p", 4 + 2 * c, 4 + r, 9, 2);
                due(wall + " another goes round", Check.told(WIDE + wall + beside).toss(0, 0, 0), 0);
            }
        }
    }

    private static void taken() {
        CHECK.sentence("THEN each PERSON runs, by numbers; onto no wall, nobody's place");
        String end = "may tall=1;";
        String q = person("q", 2, 2, 1, 1);
        due("free", Check.told(WIDE + q + end).toss(0, 0, 0), 0);
        due("a wall", Check.told(WIDE + "wall 3 3;" + q + end).toss(0, 0, 0), -1);
        due("somebody's place", Check.told(WIDE + person("p", 3, 3, 2, 0) + q + end).toss(0, 0, 0), -1);
        due("somebody's who ran away ahead of him", Check.told(WIDE + person("p", 3, 3, 2, 1) + q + end).toss(0, 0, 0), 1);
        due("somebody's who runs away behind him", Check.told(WIDE + q + person("p", 3, 3, 2, 1) + end).toss(0, 0, 0), -1);
        // both can come to 3 3 alone
        String other = "wall 3 4;" + person("p", 2, 3, 2, 1);
        due("taken ahead of him", Check.told(WIDE + other + q + end).toss(0, 0, 0), -1);
        due("he is ahead", Check.told(WIDE + q + other + end).toss(0, 0, 0), 0);
    }

    // ---- who gets it

    private static void tallestNearestFirst() {
        CHECK.sentence("of some the tallest, of like ones the nearest, then the first");
        int[][] places = {{4, 4}, {3, 3}, {5, 4}};
        for (int a = 0; a < 3; a++) {
            for (int b = 0; b < 3; b++) {
                for (int talls = 0; talls < 9 && a != b; talls++) {
                    int tallA = talls % 3;
                    int tallB = talls / 3;
                    int who = tallA != tallB ? (tallA > tallB ? 0 : 1) : b == 0 ? 1 : 0;
                    due("tall " + tallA + " at " + a + ", tall " + tallB + " at " + b, Check.told(WIDE
                            + person("p", places[a][0], places[a][1], tallA, 0)
                            + person("q", places[b][0], places[b][1], tallB, 0)).toss(0, 0, 0), who);
                }
            }
        }
        CHECK.sentence("the TEST of may holds for him (without it always)");
        String two = person("p", 4, 4, 2, 0) + person("q", 3, 3, 1, 0);
        due("without", Check.told(WIDE + two).toss(0, 0, 0), 0);
        due("for the shorter", Check.told(WIDE + two + "may tall<2;").toss(0, 0, 0), 1);
        due("for both", Check.told(WIDE + two + "may tall<3;").toss(0, 0, 0), 0);
        due("for none", Check.told(WIDE + two + "may tall<1;").toss(0, 0, 0), -1);
        NoonHat x = Check.told(WIDE + two + "may tall<1;");
        Check.square(x, WIDE + two);
        due("the next square without", x.toss(0, 0, 0), 0);
    }

    private static void mayWords() {
        CHECK.sentence("in may: tall; pace; wore; terms; noon; height");
        String two = person("p", 4, 4, 3, 1) + person("q", 3, 3, 2, 2);
        NoonHat x = Check.told(WIDE.replace("high 1", "high 5") + two + "may height=0;");
        due("height behind the beat", x.toss(0, 0, 1), 5);
        due("height behind the beat", x.toss(0, 0, 0), 0);
        due("tall", Check.told(WIDE + two + "may tall=2;").toss(0, 0, 0), 1);
        due("pace", Check.told(WIDE + two + "may pace=2;").toss(0, 0, 0), 1);
        due("pace", Check.told(WIDE + two + "may pace=1;").toss(0, 0, 0), 0);
        for (int bound = 1; bound <= 4; bound++) {
            x = Check.told(WIDE + two + "may wore<" + bound + ";");
            due("wore below " + bound, x.noons(10), 2 * bound);
            due("p wore", x.person(0, 7), bound);
            due("q wore", x.person(1, 7), bound);
            x = Check.told(WIDE + person("p", 4, 4, 3, 1) + "may terms<" + bound + ";");
            due("terms below " + bound, x.noons(10 * (bound + 1)), 10 * bound);
            x = Check.told(WIDE + person("p", 4, 4, 3, 1) + "may noon<" + bound + ";");
            due("noon below " + bound, x.noons(10), bound);
        }
        // the terms of one who does not wear it are 0
        x = Check.told(WIDE + two + "may terms=0;");
        for (int noon = 1; noon <= 6; noon++) {
            x.noons(1);
            due("noon " + noon, x.has(6), (noon + 1) % 2);
        }
    }

    private static void mayOfEach() {
        CHECK.sentence("the TEST of may holds for him: of each for himself, at each height");
        String text = "square 3 by 3 tower 1 1 high 9;law a;";
        for (int p = 0; p < 6; p++) {
            text += person("x" + (char) ('a' + p), p % 3, p / 3, 4 + p, 0);
        }
        for (int p = 0; p < 6; p++) {
            for (int height = 0; height <= 8; height++) {
                NoonHat x = Check.told(text + "may tall*10+height=" + (10 * (4 + p) + height) + ";");
                boolean can = 4 + p >= height;
                due("tall " + (4 + p) + " at height " + height, x.toss(0, 0, 0), can ? p : -1);
                due("tall " + (4 + p) + " at height " + height + ": beat", x.toss(0, 0, 1), can ? 9 - height : 9);
            }
        }
        due("all of them", Check.told(text).toss(0, 0, 0), 5);
        due("the tallest of the last", Check.told(text + "may height=8;").toss(0, 0, 0), 5);
    }

    // ---- noons

    private static void noon() {
        CHECK.sentence("Nobody WEARS it at first. HATLESS: by WAY 0, force 0; who WEARS the hat throws it");
        String p = "person p at 2 4 tall 0 pace 0 does a spin 3 force 2;";
        NoonHat x = Check.told("square 9 by 9 tower 3 4 high 1;law a;law b;" + p
                + "person q at 6 4 tall 0 pace 0 does b spin 7 force 2;");
        int[] wearers = {-1, 0, 1, 0, 1};
        for (int noon = 0; noon < wearers.length; noon++) {
            due("noon", x.has(5), noon);
            due("wearer at noon " + noon, x.has(6), wearers[noon]);
            due("law at noon " + noon, x.has(7), wearers[noon]);
            due("terms at noon " + noon, x.has(8), noon == 0 ? 0 : 1);
            x.noons(1);
        }
        x = Check.told("square 9 by 9 tower 3 4 high 1;law a;" + p + "person q at 8 8 tall 0 pace 0 does a spin 7 force 3;");
        int[] lonely = {-1, 0, -1, 0, -1};
        for (int noon = 0; noon < lonely.length; noon++) {
            due("lonely wearer at noon " + noon, x.has(6), lonely[noon]);
            due("lonely law at noon " + noon, x.has(7), lonely[noon]);
            due("lonely terms at noon " + noon, x.has(8), lonely[noon] + 1);
            x.noons(1);
        }
        CHECK.sentence("all run from where they stand, and come back to it");
        x = Check.told("square 9 by 9 tower 8 8 high 9;law a;" + person("p", 0, 0, 9, 2) + person("q", 1, 0, 9, 1));
        for (int k = 0; k < 3; k++) {
            x.noons(1);
            due("p is back", x.place(0, 0), 0);
            due("q is back", x.place(1, 0), 1);
            due("p got it", x.has(6), 0);
        }
    }

    private static void most() {
        String one = WIDE + person("p", 4, 4, 0, 0);
        CHECK.sentence("The NOON is one more (999 at most)");
        for (int noon = 997; noon <= 999; noon++) {
            NoonHat x = Check.at(Check.told(one), noon, -1, 0, 0);
            due("noons(1) at " + noon, x.noons(1), noon < 999 ? 1 : -1);
            due("noon behind " + noon, x.has(5), Math.min(999, noon + 1));
            due("acts behind " + noon, x.has(11), noon < 999 ? 1 : 0);
            due("kept behind " + noon, x.has(9), noon < 999 ? 1 : 0);
            x = Check.at(Check.told(one + "gust 100;"), noon, -1, 0, 0);
            due("chance(1) at " + noon, x.chance(1), noon < 999 ? 1 : -1);
            due("noon behind " + noon, x.has(5), Math.min(999, noon + 1));
        }
        CHECK.sentence("terms are 99, WORE 999 at most (they stay so)");
        for (int terms = 97; terms <= 99; terms++) {
            NoonHat x = Check.at(Check.told(one), 0, 0, terms, 5);
            for (int k = 1; k <= 4; k++) {
                due("terms " + terms + " and " + k + " ahead", x.later(k, 1), Math.min(99, terms + k));
            }
            for (int k = 1; k <= 4; k++) {
                x.noons(1);
                due("terms " + terms + " and " + k, x.has(8), Math.min(99, terms + k));
                due("wore", x.person(0, 7), 5 + k);
            }
        }
        for (int wore = 997; wore <= 999; wore++) {
            NoonHat x = Check.at(Check.told(one), 0, -1, 0, wore);
            for (int k = 1; k <= 4; k++) {
                x.noons(1);
                due("wore " + wore + " and " + k, x.person(0, 7), Math.min(999, wore + k));
                due("terms", x.has(8), k);
            }
        }
        NoonHat x = Check.at(Check.told(one + "may terms<99;"), 0, 0, 98, 0);
        due("98 are below 99", x.later(1, 0), 0);
        due("99 are not", x.later(2, 0), -1);
        x = Check.at(Check.told(one + "may wore<999;"), 0, 0, 98, 998);
        due("998 are below 999", x.later(1, 0), 0);
        due("999 are not", x.later(2, 0), -1);
    }

    private static void kept() {
        CHECK.sentence("KEPT is each NOON: NOON, who WEARS it then (255 none), the BEAT (1 and on); the last 40 are told");
        String text = "square 2 by 2 tower 0 0 high 9;law a;" + person("p", 1, 1, 4, 0) + "may noon/2*2=noon;";
        for (int n : new int[] {0, 1, 2, 39, 40, 41, 42, 79, 80, 81, 100}) {
            NoonHat x = Check.told(text);
            due("noons", n == 0 ? 0 : x.noons(n), (n + 1) / 2);
            int told = Math.min(40, n);
            due("told of " + n, x.has(9), told);
            for (int k : new int[] {0, 1, 20, 38, 39, 40, 41}) {
                int noon = n - told + k;
                boolean is = k < told;
                due("kept(" + k + ", 0) of " + n, x.kept(k, 0), is ? noon : -1);
                due("kept(" + k + ", 1) of " + n, x.kept(k, 1), !is ? -1 : noon % 2 == 0 ? 0 : 255);
                due("kept(" + k + ", 2) of " + n, x.kept(k, 2), !is ? -1 : noon % 2 == 0 ? 5 : 9);
                due("kept(" + k + ", 3) of " + n, x.kept(k, 3), -1);
                due("kept(" + k + ", -1) of " + n, x.kept(k, -1), -1);
            }
            due("kept(-1) of " + n, x.kept(-1, 0), -1);
            x.chance(1);
            due("one more by chance of " + n, x.has(9), Math.min(40, n + 1));
            due("the latest of " + n, x.kept(x.has(9) - 1, 0), n);
        }
        NoonHat x = Check.told(text);
        for (int k = 0; k < 10; k++) {
            x.noons(k < 9 ? 100 : 99);
            due("told of many", x.has(9), 40);
            due("the latest of many", x.kept(39, 0), k < 9 ? 100 * k + 99 : 998);
            due("the oldest of many", x.kept(0, 0), k < 9 ? 100 * k + 60 : 959);
        }
        due("beat 1", keptBeat(1), 1);
        due("beat 9", keptBeat(9), 9);
    }

    private static int keptBeat(int high) {
        NoonHat x = Check.told("square 2 by 2 tower 0 0 high " + high + ";");
        x.noons(1);
        return x.kept(0, 2);
    }

    // ---- gusts

    private static long next(long x) {
        return (1103515245L * x + 12345L) % (1L << 31);
    }

    private static void draws() {
        CHECK.sentence("in each BEAT a DRAW of 100: below gust");
        for (int gust : new int[] {0, 1, 2, 50, 99, 100}) {
            NoonHat x = Check.told(WIDE + "gust " + gust + ";");
            boolean[] looked = new boolean[3];
            for (int seed = 0; seed < 2000; seed++) {
                long draw = next(seed) / 64 % 100;
                int side = (int) draw - gust + 1;
                if (side >= 0 && side <= 2 && !looked[side]) {
                    looked[side] = true;
                    x.seed(seed);
                    due("gust " + gust + ", a draw of " + draw, x.chance(1), draw < gust ? 1 : 0);
                }
            }
        }
        CHECK.sentence("a DRAW of 9 is the WAY of the wind; x becomes (1103515245 x + 12345) mod 2 to the 31; "
                + "floor(x / 64) mod m");
        String gusty = WIDE + "winds 3;gust 100;";
        int[][] where = {{6, 4}, {2, 4}, {4, 6}, {4, 2}};
        boolean[] ways = new boolean[9];
        for (int k = 0; k < 100; k++) {
            int seed = k < 90 ? k : Integer.MAX_VALUE - (k - 90);
            int way = (int) (next(next(seed)) / 64 % 9);
            ways[way] = true;
            int[] goes = {COLUMNS[way], -COLUMNS[way], ROWS[way], -ROWS[way]};
            for (int side = 0; side < 4; side++) {
                NoonHat x = Check.told(gusty + person("p", where[side][0], where[side][1], 0, 0));
                x.seed(seed);
                due("gust of seed " + seed, x.chance(1), 1);
                due("seed " + seed + ", way " + way + ", side " + side, x.has(6), goes[side] == 1 ? 0 : -1);
            }
        }
        for (int way = 0; way < 9; way++) {
            due("way " + way + " was drawn", ways[way] ? 1 : 0, 1);
        }
    }

    private static void drawsOfBeats() {
        CHECK.sentence("in each BEAT a DRAW of 100");
        for (int high = 1; high <= 9; high++) {
            for (int gust : new int[] {0, 30, 100}) {
                // nobody: as many beats as it is high; one on the tower: one beat alone
                for (int one = 0; one < 2; one++) {
                    String text = "square 2 by 2 tower 0 0 high " + high + ";law a;gust " + gust + ";"
                            + (one == 1 ? person("p", 0, 0, 9, 0) : "");
                    NoonHat x = Check.told(text);
                    long seed = 1;
                    for (int turn = 0; turn < 3; turn++) {
                        int gusts = 0;
                        for (int beat = 0; beat < 7 * (one == 1 ? 1 : high); beat++) {
                            seed = next(seed);
                            if (seed / 64 % 100 < gust) {
                                gusts++;
                                seed = next(seed);
                            }
                        }
                        due(text + " chance(7)", x.chance(7), gusts);
                    }
                }
            }
        }
        CHECK.sentence("in each BEAT a DRAW of 100: without a gust, too");
        for (int high = 1; high <= 9; high++) {
            for (String gust : new String[] {"", "gust 0;"}) {
                // the draws of a square without gusts show in the gusts of the next one, by the same seed
                NoonHat x = Check.told("square 2 by 2 tower 0 0 high " + high + ";" + gust);
                due("no gusts", x.chance(5), 0);
                long seed = 1;
                for (int beat = 0; beat < 5 * high; beat++) {
                    seed = next(seed);
                }
                Check.square(x, "square 2 by 2 tower 0 0 high 1;gust 50;");
                int gusts = 0;
                for (int beat = 0; beat < 40; beat++) {
                    seed = next(seed);
                    if (seed / 64 % 100 < 50) {
                        gusts++;
                        seed = next(seed);
                    }
                }
                due("gusts behind " + 5 * high + " draws", x.chance(40), gusts);
            }
        }
        CHECK.sentence("NOONS by the seed: else the wind is as ever");
        NoonHat x = Check.told("square 9 by 9 tower 4 4 high 1;law a;winds 3;gust 0;" + person("p", 6, 4, 0, 0));
        due("no gust", x.chance(1), 0);
        due("by the wind", x.has(6), 0);
    }

    public static void main(String[] args) {
        ways();
        edges();
        walls();
        winds();
        lower();
        steps();
        likePlaces();
        ownPlace();
        taken();
        tallestNearestFirst();
        mayWords();
        mayOfEach();
        noon();
        most();
        kept();
        draws();
        drawsOfBeats();
        CHECK.end();
    }
}
