import java.util.Arrays;

/**
 * Both sides of each boundary of promises 1 to 10 and 21 to 31 with the document's part IV: the tape, what is told,
 * acts, questions, images, refusals, and what stays when a call is refused.
 */
public final class EdgeCallTest {
    private static final Check CHECK = new Check("EdgeCallTest");
    private static final int[] WRONG = {Integer.MIN_VALUE, -2, -1, Integer.MAX_VALUE};
    private static final String NOBODY = "square 2 by 3 tower 0 0 high 1;";
    private static final String ALONE = "square 9 by 9 tower 4 4 high 1;law a;law b;person p at 4 4 tall 1 pace 0 does a;";
    private static final String SIX = "square 9 by 7 tower 4 3 high 2;law z;law abcdef;"
            + "person a at 0 0 tall 0 pace 0 does z;person bc at 1 0 tall 1 pace 1 does abcdef spin 1 force 1;"
            + "person def at 2 0 tall 3 pace 2 does z spin 2 force 2;"
            + "person ghij at 3 1 tall 5 pace 0 does abcdef spin 3 force 3;"
            + "person klmno at 4 1 tall 7 pace 1 does z spin 4 force 0;"
            + "person pqrstu at 8 6 tall 9 pace 2 does abcdef spin 8 force 3;wall 0 6;wall 8 0;";

    private static void due(String what, long got, long want) {
        CHECK.due(what, got, want);
    }

    private static void due(String what, boolean got, boolean want) {
        CHECK.due(what, got, want);
    }

    /** All that is told of an object but for what was refused, in some three hundred calls. */
    private static String all(NoonHat x) {
        StringBuilder out = new StringBuilder();
        for (int what = 0; what < 12; what++) {
            out.append(x.has(what)).append(' ');
        }
        for (int p = 0; p < x.has(3); p++) {
            for (int what = 0; what < 8; what++) {
                out.append(x.person(p, what)).append(' ');
            }
        }
        for (int place = 0; place < 81; place++) {
            out.append(x.place(place % 9, place / 9)).append(' ');
        }
        for (int k = 0; k < 3; k++) {
            out.append(x.kept(k, 0)).append(' ').append(x.kept(k, 1)).append(' ').append(x.kept(k, 2)).append(' ');
        }
        for (int k = 0; k < 7; k++) {
            out.append(x.wears(k)).append(' ').append(x.letter(0, 1, k)).append(' ').append(x.letter(1, 0, k)).append(' ');
        }
        for (int k = 0; k < 12; k++) {
            out.append(x.octet(k)).append(' ');
        }
        return out.append(x.toss(3, 1, 0)).append(x.toss(3, 1, 2)).append(x.later(2, 0)).append(x.asked(0)).toString();
    }

    private static void same(String what, String before, NoonHat x) {
        due("all stays behind " + what, all(x).equals(before), true);
    }

    /** One of everything is kept, seen, done and pictured. */
    private static NoonHat lived(String square) {
        NoonHat x = Check.told(square);
        x.noons(2);
        x.train(0, 7, 2);
        x.image();
        Check.see(x, 0, 255);
        return x;
    }

    // ---- promises 1 to 10

    private static void newObject() {
        CHECK.sentence("No square, nobody.");
        NoonHat x = new NoonHat();
        int[] has = {0, 0, 0, 0, 0, 0, -1, -1, 0, 0, 0, 0};
        for (int what = 0; what < has.length; what++) {
            due("has(" + what + ")", x.has(what), has[what]);
        }
        for (int k = 0; k < 7; k++) {
            due("letter", x.letter(0, 0, k), -1);
            due("letter", x.letter(1, 0, k), -1);
            due("person", x.person(0, k), -1);
            due("person", x.person(k, 0), -1);
            due("place", x.place(k, 0), -1);
            due("place", x.place(0, k), -1);
            due("kept", x.kept(k, 0), -1);
            due("wears", x.wears(k), -1);
            due("octet", x.octet(k), -1);
        }
        due("asked", x.asked(0), -1);
        due("asked", x.asked(1), -1);
        due("fault", x.fault(0), 0);
        due("place of fault", x.fault(1), -1);
        for (int what = 0; what < 6; what++) {
            due("status(" + what + ")", x.status(what), 0);
        }
    }

    private static NoonHat filled(int bytes) {
        NoonHat x = new NoonHat();
        for (int k = 0; k < bytes; k += 20) {
            x.feed(0x20202020, 0x20202020, 0x20202020, 0x20202020, 0x20202020);
        }
        x.end(bytes);
        return x;
    }

    private static void feed() {
        CHECK.sentence("NONE, refused (0), if there would be more than 1600");
        for (int n : new int[] {0, 1, 19, 20, 21, 1560, 1579, 1580, 1581, 1582, 1599, 1600}) {
            NoonHat x = filled(n);
            boolean can = n <= 1580;
            due("feed behind " + n, x.feed(1, 2, 3, 4, 5), can ? n + 20 : -1);
            due("refused behind " + n, x.status(0), can ? 0 : 1);
            due("so many are there", x.end(can ? n + 20 : n), true);
            due("and no more", x.end(can ? n + 21 : n + 1), false);
        }
        NoonHat x = filled(1600);
        for (int k = 1; k <= 3; k++) {
            due("refused again", x.feed(1, 2, 3, 4, 5), -1);
            due("refused so often", x.status(0), k);
        }
        due("all 1600 are read", x.square(), -1);
        due("all 1600 are read", x.fault(1), 1600);
        due("none is left", x.feed(1, 2, 3, 4, 5), 20);
        CHECK.sentence("Twenty bytes come behind those on the tape, of each number the highest first");
        x = Check.told(ALONE);
        x.feed(0xff000100, 0x00ff0100, 0, 0, 0);
        x.end(7);
        due("bytes 255 0 1 0 0 255 1", x.see(), 7);
        int[] wears = {64, 1, 0, 1, 1, 64, 0};
        for (int k = 0; k < 7; k++) {
            due("byte " + k, x.wears(k), wears[k]);
        }
        x.feed(0, 0, 0, 0, 1);
        x.feed(0xff000000, 0, 0, 0, 0);
        x.end(21);
        due("twenty-one are too many", x.see(), -1);
        x.feed(0, 0, 0, 0, 0);
        x.end(2);
        x.feed(0xff010000, 0, 0, 0, 0);
        x.end(4);
        due("behind those that are there", x.see(), 4);
        due("the third", x.wears(2), 64);
        due("the fourth", x.wears(3), 0);
    }

    private static void end() {
        CHECK.sentence("The tape has its first n bytes alone; refused (0), if it has not so many, or n is below 0");
        for (int has : new int[] {0, 1, 20, 1600}) {
            for (int n : new int[] {Integer.MIN_VALUE, -1, 0, has - 1, has, has + 1, 1601, Integer.MAX_VALUE}) {
                NoonHat x = filled(has);
                boolean can = n >= 0 && n <= has;
                due("end(" + n + ") of " + has, x.end(n), can);
                due("refused", x.status(0), can ? 0 : 1);
                due("so many are there", x.end(can ? n : has), true);
                due("and no more", x.end(can ? n + 1 : has + 1), false);
            }
        }
    }

    private static void square() {
        CHECK.sentence("NONE, refused (1), with a FAULT (all else stays); the tape goes, refused or not");
        NoonHat x = lived(ALONE);
        String before = all(x);
        String late = "square 2 by 2 tower 0 0 high 1;law b;person q at 0 0 tall 1 pace 1 does b;wall 1 1;gust";
        due("refused", Check.square(x, late), -1);
        same("a refused square", before, x);
        due("the tape went", x.feed(0, 0, 0, 0, 0), 20);
        due("refused (1)", x.status(1), 1);
        due("undo still can", x.undo() && x.undo(), true);
        CHECK.sentence("Without one all is as at first, nothing is KEPT, SEEN or can be undone; the seed stays, "
                + "and what was refused, the latest image()");
        x = lived(ALONE);
        x.seed(-1);
        x.seed(4711);
        int[] picture = new int[11];
        for (int k = 0; k < picture.length; k++) {
            picture[k] = x.octet(k);
        }
        due("square", Check.square(x, SIX), 11);
        due("the tape went", x.feed(0, 0, 0, 0, 0), 20);
        int[] has = {9, 7, 2, 6, 2, 0, -1, -1, 0, 0, 0, 0};
        for (int what = 0; what < has.length; what++) {
            due("has(" + what + ")", x.has(what), has[what]);
        }
        due("nothing can be undone", x.undo(), false);
        due("nothing is kept", x.kept(0, 0), -1);
        due("nothing is seen", x.wears(0), -1);
        due("what was refused stays", x.status(5), 1);
        for (int k = 0; k < picture.length; k++) {
            due("octet(" + k + ") stays", x.octet(k), picture[k]);
        }
        due("and no more", x.octet(11), -1);
        Check.square(x, ALONE + "gust 50;");
        NoonHat y = Check.told(ALONE + "gust 50;");
        y.seed(4711);
        NoonHat first = Check.told(ALONE + "gust 50;");
        int gusts = x.chance(100);
        due("the seed stays", gusts, y.chance(100));
        due("it is not that of a new object", gusts == first.chance(100), false);
        due("how often he wore it is new", Check.square(x, ALONE) == 4 && x.person(0, 7) == 0, true);
    }

    private static int[] some(NoonHat x) {
        return new int[] {x.toss(2, 3, 0), x.toss(2, 3, 1), x.toss(2, 3, 2), x.toss(2, 3, 3), x.has(2), x.has(3), x.has(4),
            x.place(0, 0), x.place(8, 0), x.person(0, 5), x.person(0, 6), x.person(0, 7)};
    }

    /** Squares one behind the other on one object, refused ones between them: each is as on a new object. */
    private static void squares() {
        CHECK.sentence("Without one all is as at first: nothing stays of squares ahead of it");
        String spun = ALONE.replace("does a;", "does a spin 7 force 3;");
        String[] texts = {SIX + "winds 3;may tall<5;gust 100;", spun, NOBODY, "square 3 by 3 tower 2 2 high 9;law q;"
            + "person r at 0 0 tall 9 pace 1 does q;", ALONE + "winds 7;may all;gust 100;wall 0 0;", SIX, spun, ALONE};
        NoonHat x = new NoonHat();
        for (int k = 0; k < 40; k++) {
            String text = texts[(3 * k + k / 5) % texts.length];
            if (k % 5 == 3) {
                due("refused", Check.square(x, spun + "winds 7;may not all;gust 100;wall 8 0;wall 0 0;wall"), -1);
            }
            NoonHat y = Check.told(text);
            due("square", Check.square(x, text), text.chars().filter(c -> c == ';').count());
            int[] now = some(x);
            int[] due = some(y);
            for (int one = 0; one < now.length; one++) {
                due("row " + one + " behind " + k + " squares", now[one], due[one]);
            }
            x.seed(1);
            due("gusts behind " + k + " squares", x.chance(3), y.chance(3));
            x.noons(5);
            y.noons(5);
            due("who wears it behind " + k + " squares", x.has(6), y.has(6));
            x = k % 7 == 6 ? new NoonHat() : x;
        }
        x = Check.told(SIX + "winds noon;may tall>pace;");
        due("the third with winds and may", Check.square(x, ALONE), 4);
        due("the third with winds and may", Check.square(x, ALONE + "winds noon;may all;"), 6);
    }

    private static void fault() {
        CHECK.sentence("its FAULT (what 0; 0 without, and ahead of any), its place (1; NONE without). NONE for another what.");
        NoonHat x = new NoonHat();
        for (int turn = 0; turn < 4; turn++) {
            boolean bad = turn == 1 || turn == 3;
            if (turn == 1) {
                Check.square(x, "square 10");
            } else if (turn == 2) {
                Check.square(x, ALONE);
            } else if (turn == 3) {
                Check.ask(x, "first x");
            }
            due("fault", x.fault(0), turn == 1 ? 2 : turn == 3 ? 1 : 0);
            due("place", x.fault(1), turn == 1 ? 7 : turn == 3 ? 6 : -1);
            for (int wrong : WRONG) {
                due("what " + wrong, x.fault(wrong), -1);
            }
            due("what 2, bad " + bad, x.fault(2), -1);
        }
        CHECK.sentence("Of the latest square() or ask()");
        Check.see(x);
        Check.on(x);
        x.move(0, 9, 9);
        due("other refusals leave it", x.fault(0), 1);
        Check.ask(x, "first all");
        due("a good question takes it away", x.fault(0), 0);
        due("a good question takes it away", x.fault(1), -1);
        Check.ask(x, "first ((((((((");
        due("of ask", x.fault(0), 4);
        Check.square(x, ALONE);
        due("a good square takes it away", x.fault(0), 0);
    }

    private static void has() {
        CHECK.sentence("has: NONE for others");
        NoonHat x = lived(SIX);
        for (int wrong : new int[] {Integer.MIN_VALUE, -1, 12, 13, Integer.MAX_VALUE}) {
            due("has(" + wrong + ")", x.has(wrong), -1);
        }
        CHECK.sentence("has: who WEARS it (NONE), the LAW in force (NONE), terms of who WEARS it (0)");
        for (int who = -1; who < 6; who++) {
            Check.at(x = Check.told(SIX), 7, who, who < 0 ? 0 : 98, 3);
            due("who", x.has(6), who);
            due("law", x.has(7), who < 0 ? -1 : who % 2);
            due("terms", x.has(8), who < 0 ? 0 : 98);
        }
    }

    private static void letter() {
        CHECK.sentence("Letter k (0 .. 5) of the NAME of a LAW (kind 0), a PERSON (1): 1 .. 26; 0 behind it; "
                + "NONE when there is none such");
        NoonHat x = Check.told(SIX);
        String[][] names = {{"z", "abcdef"}, {"a", "bc", "def", "ghij", "klmno", "pqrstu"}};
        for (int kind = -1; kind <= 2; kind++) {
            for (int which = -1; which <= 6; which++) {
                for (int k = -1; k <= 6; k++) {
                    boolean is = kind >= 0 && kind < 2 && which >= 0 && which < names[kind].length && k >= 0 && k <= 5;
                    String name = is ? names[kind][which] : "";
                    due("letter(" + kind + ", " + which + ", " + k + ")", x.letter(kind, which, k),
                            !is ? -1 : k < name.length() ? name.charAt(k) - 'a' + 1 : 0);
                }
            }
        }
        for (int wrong : WRONG) {
            due("kind " + wrong, x.letter(wrong, 0, 0), -1);
            due("which " + wrong, x.letter(0, wrong, 0), -1);
            due("k " + wrong, x.letter(1, 0, wrong), -1);
        }
        for (String name : new String[] {"azzzzz", "yzzzzz", "zaaaaa", "bazzzz", "aazaza"}) {
            x = Check.told(NOBODY + "law " + name + ";");
            for (int k = 0; k < 6; k++) {
                due("letter " + k + " of " + name, x.letter(0, 0, k), name.charAt(k) - 'a' + 1);
            }
        }
        String letters = "abcdefghijklmnopqrstuvwxyz";
        for (int at = 0; at < 24; at += 6) {
            x = Check.told(NOBODY + "law " + letters.substring(at, at + 6) + ";law " + "z".repeat(1 + at / 6) + ";");
            for (int k = 0; k < 6; k++) {
                due("letter of the alphabet", x.letter(0, 0, k), at + k + 1);
                due("z", x.letter(0, 1, k), k <= at / 6 ? 26 : 0);
            }
        }
    }

    private static void personAndPlace() {
        CHECK.sentence("person: NONE when there is none such, or for others");
        NoonHat x = Check.told(SIX);
        int[][] people = {{0, 0, 0, 0, 0, 0, 0, 0}, {1, 0, 1, 1, 1, 1, 1, 0}, {2, 0, 3, 2, 0, 2, 2, 0}, {3, 1, 5, 0, 1, 3, 3, 0},
            {4, 1, 7, 1, 0, 4, 0, 0}, {8, 6, 9, 2, 1, 8, 3, 0}};
        for (int p = -1; p <= 6; p++) {
            for (int what = -1; what <= 8; what++) {
                boolean is = p >= 0 && p < 6 && what >= 0 && what < 8;
                due("person(" + p + ", " + what + ")", x.person(p, what), is ? people[p][what] : -1);
            }
        }
        for (int wrong : WRONG) {
            due("person " + wrong, x.person(wrong, 0), -1);
            due("what " + wrong, x.person(0, wrong), -1);
        }
        CHECK.sentence("place: PERSON; 100 a wall; NONE nobody, or when it is none of the SQUARE");
        for (int column = -1; column <= 9; column++) {
            for (int row = -1; row <= 9; row++) {
                int due = column == 0 && row == 6 || column == 8 && row == 0 ? 100 : -1;
                for (int p = 0; p < 6; p++) {
                    due = people[p][0] == column && people[p][1] == row ? p : due;
                }
                due("place(" + column + ", " + row + ")", x.place(column, row), due);
            }
        }
        for (int wrong : WRONG) {
            due("column " + wrong, x.place(wrong, 0), -1);
            due("row " + wrong, x.place(0, wrong), -1);
        }
        for (int n = 2; n <= 9; n++) {
            x = Check.told("square " + n + " by 5 tower 0 0 high 1;wall " + (n - 1) + " 4;");
            due("the last column of " + n, x.place(n - 1, 4), 100);
            due("beyond it", x.place(n, 4), -1);
            x = Check.told("square 5 by " + n + " tower 0 0 high 1;wall 4 " + (n - 1) + ";");
            due("the last row of " + n, x.place(4, n - 1), 100);
            due("beyond it", x.place(4, n), -1);
            due("the last place round it", x.place(-1, n - 1), -1);
        }
    }

    // ---- promises 21 to 26

    private static void move() {
        CHECK.sentence("move: true; false, refused (2), when there is none such, a wall, or one stands there (also he)");
        NoonHat x = Check.told(SIX);
        int refused = 0;
        for (int[] none : new int[][] {{-1, 5, 5}, {6, 5, 5}, {0, -1, 5}, {0, 9, 5}, {0, 5, -1}, {0, 5, 7}, {0, 0, 6}, {0, 8, 0},
            {0, 0, 0}, {0, 1, 0}, {5, 8, 6}, {5, 0, 0}, {Integer.MIN_VALUE, 5, 5}, {Integer.MAX_VALUE, 5, 5},
            {0, Integer.MIN_VALUE, 5}, {0, 5, Integer.MAX_VALUE}, {0, Integer.MAX_VALUE, Integer.MAX_VALUE}}) {
            due("move(" + none[0] + ", " + none[1] + ", " + none[2] + ")", x.move(none[0], none[1], none[2]), false);
            refused++;
            due("refused", x.status(2), refused);
            due("no act", x.has(11), 0);
        }
        same("refused moves", all(Check.told(SIX)), x);
        for (int[] can : new int[][] {{0, 0, 1}, {5, 8, 5}, {5, 8, 6}, {0, 8, 1}, {0, 1, 6}, {0, 7, 0}, {1, 0, 0},
            {2, 4, 3}, {2, 2, 0}}) {
            due("move(" + can[0] + ", " + can[1] + ", " + can[2] + ")", x.move(can[0], can[1], can[2]), true);
            due("there", x.place(can[1], can[2]), can[0]);
        }
        due("refused no more", x.status(2), refused);
        due("acts", x.has(11), 9);
        due("without a square", new NoonHat().move(0, 0, 0), false);
    }

    private static void train() {
        CHECK.sentence("train: true; false, refused (2), when there are none such, or it is so already");
        NoonHat x = Check.told(SIX);
        int refused = 0;
        for (int[] none : new int[][] {{-1, 5, 1}, {6, 5, 1}, {0, -1, 1}, {0, 9, 1}, {0, 1, -1}, {0, 1, 4}, {0, 0, 0}, {1, 1, 1},
            {5, 8, 3}, {0, 0, 4}, {0, 0, -1}, {Integer.MIN_VALUE, 1, 1}, {Integer.MAX_VALUE, 1, 1}, {0, Integer.MIN_VALUE, 1},
            {0, Integer.MAX_VALUE, 1}, {0, 1, Integer.MIN_VALUE}, {0, 1, Integer.MAX_VALUE}}) {
            due("train(" + none[0] + ", " + none[1] + ", " + none[2] + ")", x.train(none[0], none[1], none[2]), false);
            refused++;
            due("refused", x.status(2), refused);
            due("no act", x.has(11), 0);
        }
        same("refused throws", all(Check.told(SIX)), x);
        for (int[] can : new int[][] {{0, 0, 1}, {0, 0, 3}, {0, 8, 3}, {0, 8, 0}, {0, 1, 0}, {1, 1, 0}, {5, 8, 2},
            {5, 7, 2}, {5, 0, 0}}) {
            due("train(" + can[0] + ", " + can[1] + ", " + can[2] + ")", x.train(can[0], can[1], can[2]), true);
            due("way", x.person(can[0], 5), can[1]);
            due("force", x.person(can[0], 6), can[2]);
            due("so already", x.train(can[0], can[1], can[2]), false);
        }
        due("acts", x.has(11), 9);
        due("without a square", new NoonHat().train(0, 0, 1), false);
    }

    private static void noons() {
        CHECK.sentence("n NOONS (1 .. 100), one ACT; NONE, refused (3), when it can't be, or without a square");
        int[] many = {Integer.MIN_VALUE, -1, 0, 1, 2, 99, 100, 101, 102, 999, 1000, Integer.MAX_VALUE};
        for (int noon : new int[] {0, 1, 898, 899, 900, 901, 997, 998, 999}) {
            for (int n : many) {
                boolean can = n >= 1 && n <= 100 && noon + n <= 999;
                for (int chance = 0; chance < 2; chance++) {
                    NoonHat x = Check.at(Check.told(ALONE + "gust 100;"), noon, -1, 0, 0);
                    String call = (chance == 1 ? "chance(" : "noons(") + n + ") at " + noon;
                    due(call, chance == 1 ? x.chance(n) : x.noons(n), can ? n : -1);
                    due("refused of " + call, x.status(3), can ? 0 : 1);
                    due("noon behind " + call, x.has(5), can ? noon + n : noon);
                    due("acts behind " + call, x.has(11), can ? 1 : 0);
                    due("kept behind " + call, x.has(9), can ? Math.min(40, n) : 0);
                }
            }
        }
        NoonHat x = new NoonHat();
        due("noons without a square", x.noons(1), -1);
        due("chance without a square", x.chance(1), -1);
        due("refused", x.status(3), 2);
    }

    private static void act(NoonHat x, int k) {
        if (k % 4 == 0) {
            x.train(0, 1 + k / 4 % 8, 1);
        } else if (k % 4 == 1) {
            x.move(0, k % 9, 8);
        } else if (k % 4 == 2) {
            x.noons(1 + k % 3);
        } else {
            x.chance(1 + k % 2);
        }
    }

    private static void undo() {
        CHECK.sentence("The last 20 can be undone; true; false, refused (4), when none can be");
        for (int acts : new int[] {0, 1, 2, 19, 20, 21, 22, 39, 40, 41, 60}) {
            NoonHat x = Check.told(ALONE);
            NoonHat then = Check.told(ALONE);
            for (int k = 0; k < acts; k++) {
                act(x, k);
                due("acts that can be undone", x.has(11), Math.min(20, k + 1));
            }
            for (int k = 0; k < acts - 20; k++) {
                act(then, k);
            }
            int can = Math.min(20, acts);
            for (int k = 1; k <= can; k++) {
                due("undo " + k + " of " + acts, x.undo(), true);
                due("left", x.has(11), can - k);
            }
            due("one more of " + acts, x.undo(), false);
            due("and one", x.undo(), false);
            due("refused", x.status(4), 2);
            int[] a = Check.picture(x);
            int[] b = Check.picture(then);
            due("all is as behind the first " + (acts - 20), Arrays.equals(a, b), true);
            due("what is kept, too", x.has(9), then.has(9));
            x.noons(1);
            due("an act again", x.has(11), 1);
        }
        undone();
    }

    private static void undone() {
        CHECK.sentence("The latest ACT is undone (the seed stays)");
        NoonHat x = Check.told(ALONE + "gust 50;");
        NoonHat y = Check.told(ALONE + "gust 50;");
        int first = x.chance(100);
        y.chance(100);
        x.undo();
        due("noon", x.has(5), 0);
        due("kept", x.has(9), 0);
        due("wore", x.person(0, 7), 0);
        int again = x.chance(100);
        due("the draws go on", again, y.chance(100));
        due("they do not come again", again == first, false);
        CHECK.sentence("The latest ACT is undone: KEPT as ahead of it");
        x = Check.told(ALONE);
        x.noons(50);
        x.noons(1);
        due("the oldest", x.kept(0, 0), 11);
        x.undo();
        due("the oldest again", x.kept(0, 0), 10);
        due("the latest", x.kept(39, 0), 49);
        x.noons(100);
        x.undo();
        due("the oldest once more", x.kept(0, 0), 10);
        x.undo();
        due("none", x.has(9), 0);
        CHECK.sentence("nothing .. can be undone behind a square, an image; refused acts are none");
        x = lived(ALONE);
        Check.square(x, ALONE);
        due("behind a square", x.undo(), false);
        x = lived(ALONE);
        Check.at(x, 3, -1, 0, 0);
        due("behind an image", x.undo(), false);
        x = Check.told(ALONE);
        x.move(0, 4, 4);
        x.train(0, 0, 0);
        x.noons(0);
        x.chance(101);
        due("refused acts", x.undo(), false);
        due("without a square", new NoonHat().undo(), false);
    }

    private static void seed() {
        CHECK.sentence("The seed: true; false, refused (5), when it is below 0. (It is 1 at first.)");
        String text = ALONE + "gust 50;";
        for (int seed : new int[] {Integer.MIN_VALUE, -2, -1, 0, 1, 2, Integer.MAX_VALUE - 1, Integer.MAX_VALUE}) {
            NoonHat x = Check.told(text);
            due("seed(" + seed + ")", x.seed(seed), seed >= 0);
            due("refused", x.status(5), seed >= 0 ? 0 : 1);
            long at = seed >= 0 ? seed : 1;
            for (int turn = 0; turn < 3; turn++) {
                int gusts = 0;
                for (int k = 0; k < 20; k++) {
                    at = (1103515245L * at + 12345) % 2147483648L;
                    if (at / 64 % 100 < 50) {
                        gusts++;
                        at = (1103515245L * at + 12345) % 2147483648L;
                    }
                }
                // a noon is one beat here, whatever the wind
                due("gusts of seed " + seed, x.chance(20), gusts);
            }
        }
        NoonHat x = new NoonHat();
        due("without a square", x.seed(0), true);
        due("without a square", x.seed(-1), false);
    }

    // ---- promise 27

    private static void asks() {
        CHECK.sentence("NONE of first, last, when its TEST holds for none; 0 without PEOPLE");
        Object[][] nobody = {{"first all", -1}, {"last all", -1}, {"often all", 0}, {"total 5", 0}, {"most 5", 0}, {"least 5", 0},
            {"most 0-5", 0}, {"least 0-5", 0}, {"total gets", 0}};
        for (Object[] one : nobody) {
            CHECK.goodAsk(NOBODY, (Integer) one[1], (String) one[0]);
        }
        Object[][] six = {{"first all", 0}, {"last all", 5}, {"often all", 6}, {"first number>5", -1}, {"last number>5", -1},
            {"often number>5", 0}, {"first number>4", 5}, {"last number<1", 0}, {"often number=3", 1}, {"first number=3", 3},
            {"last number=3", 3}, {"most 0-5", -5}, {"least 5", 5}, {"most number", 5}, {"least number", 0}, {"most 0-number", 0},
            {"least 0-number", -5}, {"total number", 15}, {"total 0-number", -15}, {"most column", 8}, {"most row", 6},
            {"total column", 18}, {"total row", 8}, {"most tall", 9}, {"least tall", 0}, {"total pace", 6}, {"total force", 9},
            {"total noon", 0}, {"total wore", 0}, {"total terms", 0}};
        for (Object[] one : six) {
            CHECK.goodAsk(SIX, (Integer) one[1], (String) one[0]);
        }
        CHECK.sentence("total SUM (of all together, not held)");
        CHECK.goodAsk(SIX, 6000000, "total 1000*1000");
        CHECK.goodAsk(SIX, 6000000, "total 9999*9999");
        CHECK.goodAsk(SIX, -6000000, "total 0-9999*9999");
        CHECK.goodAsk(ALONE, 1000000, "total 9999*9999");
        CHECK.goodAsk(SIX, 1000000, "most 9999*9999");
        CHECK.goodAsk(SIX, -1000000, "least 0-9999*9999");
        CHECK.sentence("1 if his THROW is by the WAY of that number, else 0");
        for (int way = 0; way <= 9; way++) {
            boolean is = way <= 4 || way == 8;
            CHECK.goodAsk(SIX, is ? way < 5 ? way : 5 : -1, "first spin " + way + "=1");
            CHECK.goodAsk(SIX, is ? 1 : 0, "total spin " + way);
        }
        CHECK.goodAsk(SIX, 0, "total spin (0-1)");
        CHECK.goodAsk(SIX, 0, "total spin 9999");
        CHECK.goodAsk(SIX, 1 + 6, "total spin 1+1");
        CHECK.goodAsk(SIX, 3, "total spin 1*3");
        CHECK.goodAsk(SIX, 1, "total spin (1+1)");
        CHECK.goodAsk(SIX, 1, "total spin min(4,8)");
        CHECK.goodAsk(SIX, 5, "total spin number");
        CHECK.sentence("how many of the 33 he would GET now");
        CHECK.goodAsk("square 2 by 2 tower 0 0 high 1;law a;person p at 1 1 tall 0 pace 0 does a;", 33, "most gets");
        CHECK.goodAsk("square 2 by 2 tower 0 0 high 1;law a;person p at 1 1 tall 0 pace 0 does a;may not all;", 0, "most gets");
        CHECK.goodAsk("square 9 by 9 tower 0 0 high 1;law a;person p at 8 8 tall 0 pace 0 does a;", 0, "most gets");
    }

    /** Many questions of one object: none hangs on those ahead of it. */
    private static void asksAgain() {
        CHECK.sentence("The tape is a QUESTION: its answer, whatever was asked ahead of it");
        String square = "square 9 by 9 tower 4 4 high 1;law a;person p at 4 4 tall 1 pace 0 does a;"
                + "person q at 8 8 tall 1 pace 0 does a;";
        NoonHat x = Check.told(square);
        String[] texts = {"most gets", "total gets", "first 1=2", "often gets=gets", "total ((1+2)*3)", "least gets", "most tall",
            "first gets=1"};
        int[] due = {17, 18, -1, 2, 18, 1, 1, 1};
        for (int k = 0; k < 64; k++) {
            due("question " + k + ", " + texts[k % 8], Check.ask(x, texts[k % 8]), due[k % 8]);
        }
        x = Check.told(square);
        String wide = "total 1" + "+1".repeat(790);
        due("a wide one", Check.ask(x, wide), 2 * 791);
        due("a wide one again", Check.ask(x, wide), 2 * 791);
        due("a wide product", Check.ask(x, "most 1" + "*1".repeat(796)), 1);
        due("a wide test", Check.ask(x, "first 1=2" + " or 1=2".repeat(220) + " or all"), 0);
        due("another", Check.ask(x, "first all" + " and all".repeat(190) + " and 1=2"), -1);
    }

    private static void askNow() {
        CHECK.sentence("how often he WORE it; how many NOONS one after the other up to now he WORE it; The NOON");
        NoonHat x = Check.at(Check.told(SIX), 999, 3, 99, 999);
        due("most noon", Check.ask(x, "most noon"), 999);
        due("least wore", Check.ask(x, "least wore"), 999);
        due("total terms", Check.ask(x, "total terms"), 99);
        due("first terms>0", Check.ask(x, "first terms>0"), 3);
        due("last terms=99", Check.ask(x, "last terms=99"), 3);
        due("often terms=0", Check.ask(x, "often terms=0"), 5);
        x.move(0, 7, 5);
        x.train(0, 7, 3);
        due("where he stands now", Check.ask(x, "most spin 7*(column*10+row)"), 75);
        due("his throw now", Check.ask(x, "most spin 7*force"), 3);
        CHECK.sentence("NOTHING with a FAULT, or (the tape goes, nothing else is done, fault() stays) without a square");
        x = lived(ALONE);
        String before = all(x);
        due("a fault", Check.ask(x, "first"), NoonHat.NOTHING);
        same("a question with a fault", before, x);
        due("the tape went", x.feed(0, 0, 0, 0, 0), 20);
        due("no fault", Check.ask(x, "first all"), 0);
        same("a question", before, x);
        due("the tape went", x.feed(0, 0, 0, 0, 0), 20);
        int sum = 0;
        for (int what = 0; what < 6; what++) {
            sum += x.status(what);
        }
        due("a question is not refused", sum, 0);
        x = new NoonHat();
        due("without a square", Check.ask(x, "first all"), NoonHat.NOTHING);
        due("the tape went", x.feed(0, 0, 0, 0, 0), 20);
        due("fault", x.fault(0), 0);
        Check.square(x, "square 10");
        due("without a square", Check.ask(x, "first ?"), NoonHat.NOTHING);
        due("fault stays", x.fault(0), 2);
        due("its place stays", x.fault(1), 7);
        due("without a square", Check.ask(x, "first all"), NoonHat.NOTHING);
        due("fault stays", x.fault(0), 2);
    }

    private static void askFaults() {
        CHECK.sentence("Its FAULTS: 1 as in I (an unknown word at its first byte; what stands behind it, too)");
        CHECK.badAsk(SIX, 1, "^");
        CHECK.badAsk(SIX, 1, " \n^");
        for (String kind : new String[] {"first", "last", "often"}) {
            CHECK.badAsk(SIX, 1, kind + "^");
            CHECK.badAsk(SIX, 1, kind + " 1^");
            CHECK.badAsk(SIX, 1, kind + " all^;");
            CHECK.badAsk(SIX, 1, kind + " all ^1");
            CHECK.badAsk(SIX, 1, kind + " all ^all");
            CHECK.badAsk(SIX, 1, "^" + kind + "s all");
            CHECK.badAsk(SIX, 1, "^" + kind.substring(1) + " all");
            CHECK.goodAsk(ALONE, kind.equals("often") ? 1 : 0, " " + kind + " all\n");
        }
        for (String kind : new String[] {"total", "most", "least"}) {
            CHECK.badAsk(SIX, 1, kind + "^");
            CHECK.badAsk(SIX, 1, kind + " ^all");
            CHECK.badAsk(SIX, 1, kind + " 1^;");
            CHECK.badAsk(SIX, 1, kind + " 1^<2");
            CHECK.badAsk(SIX, 1, kind + " ^not 1");
            CHECK.badAsk(SIX, 1, kind + " ^[1]");
            CHECK.badAsk(SIX, 1, "^" + kind + "x 1");
            CHECK.goodAsk(ALONE, 7, "\n" + kind + " 7 ");
        }
        for (String word : new String[] {"height", "x", "talls", "columnx", "abcdefgh", "spins", "square", "law", "first",
            "most", "a", "p"}) {
            CHECK.badAsk(SIX, 1, "total ^" + word);
            CHECK.badAsk(SIX, 1, "first 1+^" + word + "=1");
            CHECK.badAsk(SIX, 1, "^" + word + "z 1");
        }
        CHECK.badAsk(SIX, 1, "total 1234^5");
        CHECK.goodAsk(ALONE, 1234, "total 1234");
        CHECK.badAsk(SIX, 1, "total spin^");
        CHECK.badAsk(SIX, 1, "total spin^1");
        CHECK.badAsk(SIX, 1, "total spin ^-1");
        CHECK.sentence("4 the 7th of ( [ not spin that is open at once (not until its FACT, spin until its PART ends), at it");
        CHECK.goodAsk(ALONE, 0, "total spin spin spin spin spin spin 0");
        CHECK.badAsk(SIX, 4, "total spin spin spin spin spin spin ^spin 0");
        CHECK.badAsk(SIX, 4, "total spin spin spin spin spin spin ^(0)");
        CHECK.badAsk(SIX, 4, "total ((((((^spin 0");
        CHECK.badAsk(SIX, 4, "total spin spin spin spin spin spin min^(0,1)");
        CHECK.goodAsk(ALONE, 1, "total spin spin spin spin spin (0)");
        CHECK.goodAsk(ALONE, 20, "total " + "spin 0+".repeat(19) + "spin 0");
        CHECK.goodAsk(ALONE, 0, "total spin spin spin spin spin spin 0*spin spin spin spin spin spin 0");
        CHECK.goodAsk(ALONE, 1, "total min(spin spin spin spin spin 1,(spin spin spin spin 0))+1-0*(1)");
        CHECK.goodAsk(ALONE, 0, "first not not [not [spin 1=1]]");
        CHECK.badAsk(SIX, 4, "first not not [not [spin ^(1)=1]]");
        CHECK.goodAsk(ALONE, 0, "first not not not not not (1)=spin 1+spin 1");
        CHECK.badAsk(SIX, 4, "first not not not not not (1)=spin 1+spin ^(1)");
        CHECK.badAsk(SIX, 4, "first not not not not not not 1=^spin 1");
    }

    // ---- promises 28 to 31

    private static void image() {
        CHECK.sentence("AN IMAGE: NOON (two bytes, the higher first), who WEARS it and 1 (0: HATLESS), terms; "
                + "WORE (two bytes); last a byte: all ahead from 47 on, c = (3 c + it) mod 251");
        for (int number : new int[] {0, 1, 255, 256, 257, 511, 512, 767, 768, 998, 999}) {
            for (int who = -1; who < 6; who++) {
                int terms = who < 0 ? 0 : number % 99 + 1;
                NoonHat x = Check.at(Check.told(SIX), number, who, terms, 999 - number);
                due("image()", x.image(), 41);
                int[] due = {number / 256, number % 256, who + 1, terms};
                int[][] people = {{0, 0, 0, 0}, {1, 0, 1, 1}, {2, 0, 2, 2}, {3, 1, 3, 3}, {4, 1, 4, 0}, {8, 6, 8, 3}};
                int seal = 47;
                for (int k = 0; k < 40; k++) {
                    int at = (k - 4) % 6;
                    int wore = at == 4 ? (999 - number) / 256 : (999 - number) % 256;
                    int it = k < 4 ? due[k] : at < 4 ? people[(k - 4) / 6][at] : wore;
                    due("octet(" + k + ")", x.octet(k), it);
                    seal = (3 * seal + it) % 251;
                }
                due("the last octet", x.octet(40), seal);
                due("none behind it", x.octet(41), -1);
            }
        }
        CHECK.sentence("AN IMAGE is written: how many bytes; octet: NONE when there is none such");
        StringBuilder text = new StringBuilder(ALONE);
        NoonHat x = Check.told(NOBODY);
        due("nothing is written", x.octet(0), -1);
        due("without people", x.image(), 5);
        for (int people = 1; people <= 6; people++) {
            Check.square(x, text.toString());
            due("the latest stays", x.octet(6 * people - 2) >= 0 && x.octet(6 * people - 1) == -1, true);
            due("people " + people, x.image(), 5 + 6 * people);
            due("the last", x.octet(4 + 6 * people) >= 0, true);
            for (int wrong : new int[] {Integer.MIN_VALUE, -1, 5 + 6 * people, 41, Integer.MAX_VALUE}) {
                due("octet(" + wrong + ")", x.octet(wrong), -1);
            }
            text.append("person x").append((char) ('a' + people)).append(" at ").append(people)
                    .append(" 0 tall 1 pace 1 does a;");
        }
        Check.square(x, NOBODY);
        due("a shorter one", x.image(), 5);
        due("its last", x.octet(4), 42);
        due("none behind it", x.octet(5), -1);
        x.image();
        due("without a square", new NoonHat().image(), 5);
    }

    private static final int[] GOOD = {0, 7, 1, 1, 4, 4, 0, 0, 0, 1, 5, 5, 8, 3, 0, 0};
    private static final String TWO = "square 9 by 8 tower 4 4 high 1;law a;law b;person p at 4 4 tall 1 pace 0 does a;"
            + "person q at 3 3 tall 1 pace 0 does b;wall 6 6;";

    /** The image with some bytes otherwise (place, byte, place, byte ..) is one or none. */
    private static void on(boolean can, int... otherwise) {
        int[] bytes = GOOD.clone();
        for (int k = 0; k < otherwise.length; k += 2) {
            bytes[otherwise[k]] = otherwise[k + 1];
        }
        NoonHat x = lived(TWO);
        String before = all(x);
        String what = "on " + Arrays.toString(bytes);
        due(what, Check.on(x, Check.sealed(bytes)), can);
        due("the tape went, " + what, x.feed(0, 0, 0, 0, 0), 20);
        due("refused (5), " + what, x.status(5), can ? 0 : 1);
        if (!can) {
            same(what, before, x);
            return;
        }
        due("noon, " + what, x.has(5), 256 * bytes[0] + bytes[1]);
        due("who, " + what, x.has(6), bytes[2] - 1);
        due("terms, " + what, x.has(8), bytes[3]);
        due("kept, " + what, x.has(9), 0);
        due("acts, " + what, x.has(11), 0);
        due("seen stays, " + what, x.has(10), 2);
        for (int p = 0; p < 2; p++) {
            int[] of = {bytes[4 + 6 * p], bytes[5 + 6 * p], 1, 0, p, bytes[6 + 6 * p], bytes[7 + 6 * p],
                256 * bytes[8 + 6 * p] + bytes[9 + 6 * p]};
            for (int k = 0; k < 8; k++) {
                due("person(" + p + ", " + k + "), " + what, x.person(p, k), of[k]);
            }
        }
    }

    private static void onNumbers() {
        CHECK.sentence("NOON 999, terms 99, WORE 999 at most");
        on(true);
        on(true, 0, 3, 1, 230);
        on(true, 0, 3, 1, 231);
        on(false, 0, 3, 1, 232);
        on(false, 0, 3, 1, 255);
        on(false, 0, 4, 1, 0);
        on(false, 0, 255);
        on(true, 0, 2, 1, 255);
        on(true, 3, 98);
        on(true, 3, 99);
        on(false, 3, 100);
        on(false, 3, 255);
        for (int p = 0; p < 2; p++) {
            on(true, 8 + 6 * p, 3, 9 + 6 * p, 230);
            on(true, 8 + 6 * p, 3, 9 + 6 * p, 231);
            on(false, 8 + 6 * p, 3, 9 + 6 * p, 232);
            on(false, 8 + 6 * p, 4, 9 + 6 * p, 0);
            on(true, 8 + 6 * p, 0, 9 + 6 * p, 255);
            on(true, 8 + 6 * p, 1, 9 + 6 * p, 0);
            on(false, 8 + 6 * p, 255, 9 + 6 * p, 255);
        }
        CHECK.sentence("PEOPLE that there are, terms 0 just when HATLESS");
        on(true, 2, 2);
        on(false, 2, 3);
        on(false, 2, 255);
        on(false, 2, 0);
        on(false, 3, 0);
        on(true, 2, 0, 3, 0);
        on(false, 2, 2, 3, 0);
        on(false, 2, 0, 3, 99);
        CHECK.sentence("WAYS, force that there are");
        for (int p = 0; p < 2; p++) {
            on(true, 6 + 6 * p, 0);
            on(true, 6 + 6 * p, 8);
            on(false, 6 + 6 * p, 9);
            on(false, 6 + 6 * p, 255);
            on(true, 7 + 6 * p, 0);
            on(true, 7 + 6 * p, 3);
            on(false, 7 + 6 * p, 4);
            on(false, 7 + 6 * p, 255);
            on(true, 6 + 6 * p, 0, 7 + 6 * p, 3);
        }
    }

    private static void onPlaces() {
        CHECK.sentence("places without a wall, no two on one");
        for (int p = 0; p < 2; p++) {
            int at = 4 + 6 * p;
            on(true, at, 0, at + 1, 0);
            on(true, at, 8, at + 1, 7);
            on(false, at, 9, at + 1, 0);
            on(false, at, 0, at + 1, 8);
            on(false, at, 255, at + 1, 0);
            on(false, at, 0, at + 1, 255);
            on(false, at, 6, at + 1, 6);
            on(true, at, 6, at + 1, 5);
            on(true, at, 5, at + 1, 6);
            on(true, at, 6, at + 1, 7);
        }
        on(false, 4, 5, 5, 5);
        on(true, 4, 5, 5, 4);
        on(false, 10, 4, 11, 4);
        on(true, 10, 5, 11, 4);
        on(true, 4, 3, 5, 3, 10, 4, 11, 4);
    }

    private static void onWhole() {
        CHECK.sentence("AN IMAGE of this SQUARE; last a byte: all ahead from 47 on, c = (3 c + it) mod 251");
        int[] whole = Check.sealed(GOOD);
        for (int last = 0; last < 256; last++) {
            int[] bytes = whole.clone();
            bytes[16] = last;
            due("the last byte " + last, Check.on(Check.told(TWO), bytes), last == whole[16]);
        }
        for (int k = 0; k < 16; k++) {
            int[] bytes = whole.clone();
            bytes[k] ^= 1;
            due("byte " + k + " otherwise", Check.on(Check.told(TWO), bytes), false);
        }
        for (int n = 0; n <= 41; n++) {
            int[] bytes = Check.sealed(Arrays.copyOf(GOOD, n));
            due("so many bytes, " + (n + 1), Check.on(Check.told(TWO), bytes), n == 16);
        }
        due("no byte", Check.on(Check.told(TWO)), false);
        due("no byte, nobody", Check.on(Check.told(NOBODY)), false);
        for (int n = 0; n <= 11; n++) {
            due("nobody, " + (n + 1), Check.on(Check.told(NOBODY), Check.sealed(new int[n])), n == 4);
        }
        NoonHat x = Check.told(TWO);
        x.noons(3);
        x.image();
        int[] picture = Check.picture(x);
        x.noons(3);
        due("an image of its own", Check.on(x, picture), true);
        due("noon", x.has(5), 3);
        due("the latest image stays", x.octet(1), 3);
        due("another square", Check.on(Check.told(ALONE), picture), false);
        CHECK.sentence("on: false, refused (5), or without a square; the tape (it goes, refused or not)");
        x = new NoonHat();
        due("without a square", Check.on(x, Check.sealed(0, 0, 0, 0)), false);
        due("refused", x.status(5), 1);
        due("the tape went", x.feed(0, 0, 0, 0, 0), 20);
        CHECK.sentence("all is as it tells, nothing is KEPT or can be undone: the seed stays");
        x = Check.told(ALONE + "gust 50;");
        NoonHat y = Check.told(ALONE + "gust 50;");
        x.seed(99);
        y.seed(99);
        Check.at(x, 0, -1, 0, 0);
        due("gusts", x.chance(100), y.chance(100));
    }

    private static void status() {
        CHECK.sentence("How many were refused: 0 feed(), end(); 1 square(), see(); 2 move(), train(); 3 noons(), chance(); "
                + "4 undo(); 5 seed(), on(). NONE for others.");
        NoonHat x = Check.told(ALONE);
        int[] kinds = {0, 1, 1, 2, 2, 3, 3, 4, 5, 5};
        int[] due = new int[6];
        for (int k = 0; k < 22; k++) {
            int which = k % 11;
            switch (which) {
                case 0: due("end", x.end(-1), false); break;
                case 1: due("square", Check.square(x, "?"), -1); break;
                case 2: due("see", Check.see(x), -1); break;
                case 3: due("move", x.move(0, 4, 4), false); break;
                case 4: due("train", x.train(0, 0, 0), false); break;
                case 5: due("noons", x.noons(0), -1); break;
                case 6: due("chance", x.chance(0), -1); break;
                case 7: due("undo", x.undo(), false); break;
                case 8: due("seed", x.seed(-1), false); break;
                case 9: due("on", Check.on(x), false); break;
                default: due("ask", Check.ask(x, "?"), NoonHat.NOTHING); break;
            }
            if (which < kinds.length) {
                due[kinds[which]]++;
            }
            for (int what = 0; what < 6; what++) {
                due("status(" + what + ") behind " + k, x.status(what), due[what]);
            }
            due("status(-1)", x.status(-1), -1);
            due("status(6)", x.status(6), -1);
        }
        for (int wrong : WRONG) {
            due("status(" + wrong + ")", x.status(wrong), -1);
        }
        Check.square(x, ALONE);
        for (int what = 0; what < 6; what++) {
            due("status(" + what + ") behind a square", x.status(what), due[what]);
        }
    }

    private static void calls() {
        CHECK.sentence("An object is used for at most 512 calls after it has been made");
        StringBuilder text = new StringBuilder("square 9 by 9 tower 4 4 high 9;law a;winds height;may wore<5;");
        for (int p = 0; p < 6; p++) {
            text.append("person x").append((char) ('a' + p)).append(" at ").append(p).append(" 8 tall ").append(p % 2)
                    .append(" pace 2 does a;");
        }
        NoonHat x = Check.told(text.toString());
        int[] due = {x.stand(5, 0), x.stand(5, 1), x.stand(5, 2)};
        // some twenty calls told the square
        for (int k = 0; k < 480; k++) {
            due("call " + k, x.stand(5, k % 3), due[k % 3]);
        }
        x = new NoonHat();
        for (int k = 1; k < 512; k++) {
            due("undo " + k, x.undo(), false);
        }
        due("the 512th call", x.status(4), 511);
    }

    public static void main(String[] args) {
        newObject();
        feed();
        end();
        square();
        squares();
        fault();
        has();
        letter();
        personAndPlace();
        move();
        train();
        noons();
        undo();
        seed();
        asks();
        asksAgain();
        askNow();
        askFaults();
        image();
        onNumbers();
        onPlaces();
        onWhole();
        status();
        calls();
        CHECK.end();
    }
}
