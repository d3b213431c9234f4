import java.util.Arrays;

/**
 * Both sides of each boundary that the document's part III names, with promises 11 to 20: throws, where to stand,
 * the least change, noons ahead, who wore it. What is due is worked out here by the sentence alone.
 */
public final class EdgeAheadTest {
    private static final Check CHECK = new Check("EdgeAheadTest");
    private static final int[] WRONG = {Integer.MIN_VALUE, -2, -1, Integer.MAX_VALUE};
    private static final int[] COLUMNS = {0, 0, 1, 1, 1, 0, -1, -1, -1};
    private static final int[] ROWS = {0, -1, -1, 0, 1, 1, 1, 0, -1};
    private static final String WIDE = "square 9 by 9 tower 4 4 high 1;law a;law b;";
    private static final String ALONE = WIDE + "person p at 4 4 tall 1 pace 0 does a;";
    private static final String NOBODY = "square 9 by 9 tower 4 4 high 1;";

    private static void due(String what, long got, long want) {
        CHECK.due(what, got, want);
    }

    private static int wayOf(int toss) {
        return toss == 0 ? 0 : 1 + (toss - 1) / 4;
    }

    private static int forceOf(int toss) {
        return toss == 0 ? 0 : (toss - 1) % 4;
    }

    /** Whether a throw from 4 4 comes down next to a place or on it. */
    private static boolean near(int toss, int column, int row) {
        int c = 4 + forceOf(toss) * COLUMNS[wayOf(toss)];
        int r = 4 + forceOf(toss) * ROWS[wayOf(toss)];
        return Math.abs(c - column) <= 1 && Math.abs(r - row) <= 1;
    }

    // ---- throws

    private static void toss() {
        CHECK.sentence("toss: NONE when there is none such, without a square, or for others");
        NoonHat x = Check.told(ALONE);
        NoonHat none = new NoonHat();
        for (int what = 0; what <= 3; what++) {
            int[] due = {0, 1, 4, 4};
            due("toss(0, 0, " + what + ")", x.toss(0, 0, what), due[what]);
            due("toss(8, 3, " + what + ")", x.toss(8, 3, what), new int[] {-1, 1, 1, 1}[what]);
            due("without a square", none.toss(0, 0, what), -1);
            for (int wrong : WRONG) {
                due("way " + wrong, x.toss(wrong, 0, what), -1);
                due("force " + wrong, x.toss(0, wrong, what), -1);
                due("what " + wrong, x.toss(0, 0, wrong), -1);
            }
            for (int way = 0; way <= 8; way++) {
                due("way 9", x.toss(9, what, what), -1);
                due("force 4 of way " + way, x.toss(way, 4, what), -1);
                due("what 4 of way " + way, x.toss(way, 3, 4), -1);
                due("force -1 of way " + way, x.toss(way, -1, what), -1);
            }
        }
        CHECK.sentence("by WAY 0 any force does nothing");
        for (int force = 0; force <= 3; force++) {
            due("column", x.toss(0, force, 2), 4);
            due("row", x.toss(0, force, 3), 4);
            due("who", x.toss(0, force, 0), 0);
        }
    }

    private static void likely() {
        CHECK.sentence("There are 33 THROWS .. numbered so from 0 on (4 WAY - 3 + force; those of force 0 count each)");
        NoonHat x = Check.told(ALONE);
        for (int place = 0; place < 81; place++) {
            x.move(0, place % 9, place / 9);
            int first = -1;
            int many = 0;
            for (int toss = 32; toss >= 0; toss--) {
                if (near(toss, place % 9, place / 9)) {
                    first = toss;
                    many++;
                }
            }
            due("first that gets to " + place, x.likely(0, 0), first);
            due("how many get to " + place, x.likely(0, 1), many);
        }
        due("all 33 of them on a small square", Check.told("square 2 by 2 tower 0 0 high 1;law a;"
                + "person p at 1 1 tall 0 pace 0 does a;").likely(0, 1), 33);
        CHECK.sentence("likely: NONE of the first without, when there is none such, or for others");
        x = Check.told(ALONE + "may not all;");
        due("the first without", x.likely(0, 0), -1);
        due("how many without", x.likely(0, 1), 0);
        for (int wrong : WRONG) {
            due("person " + wrong, x.likely(wrong, 0), -1);
            due("person " + wrong, x.likely(wrong, 1), -1);
            due("what " + wrong, x.likely(0, wrong), -1);
        }
        due("what 2", x.likely(0, 2), -1);
        due("person 1 of 1", x.likely(1, 1), -1);
        due("without a square", new NoonHat().likely(0, 1), -1);
        x = sixPeople("");
        due("person 5 of 6", x.likely(5, 1) >= 0 ? 1 : 0, 1);
        due("person 6 of 6", x.likely(6, 1), -1);
    }

    private static NoonHat sixPeople(String more) {
        return Check.told(WIDE + Check.many("person # at @ % tall 1 pace 0 does b;", 6).replace("person a at", "person aa at")
                .replace("person b at", "person bb at") + more);
    }

    private static void stand(String what, String text, int person, int column, int row, int many) {
        NoonHat x = Check.told(text);
        due(what + ": column", x.stand(person, 0), column);
        due(what + ": row", x.stand(person, 1), row);
        due(what + ": how many", x.stand(person, 2), many);
    }

    private static void stands() {
        CHECK.sentence("STAND .. of like ones the first, row by row (no wall, nobody else's)");
        String two = "square 2 by 3 tower 1 2 high 1;law a;";
        String p = "person p at 1 2 tall 1 pace 0 does a;may not all;";
        stand("the first of all", two + p, 0, 0, 0, 0);
        stand("a wall", two + "wall 0 0;" + p, 0, 1, 0, 0);
        stand("a row of walls", two + "wall 0 0;wall 1 0;" + p, 0, 0, 1, 0);
        stand("another's", two + "person q at 0 0 tall 1 pace 0 does a;" + p, 1, 1, 0, 0);
        stand("his own", two + "person q at 0 0 tall 1 pace 0 does a;" + p, 0, 0, 0, 0);
        String narrow = "square 2 by 2 tower 1 1 high 1;law a;wall 0 0;wall 1 0;wall 0 1;";
        stand("all but his", narrow + p.replace("1 2", "1 1"), 0, 1, 1, 0);
        String drifting = "square 4 by 4 tower 3 3 high 2;law a;person p at 0 0 tall 0 pace 0 does a;winds 4;";
        stand("where all come", drifting, 0, 2, 2, 33);
        CHECK.sentence("STAND is the place of the SQUARE from which a PERSON would GET most of them");
        // a place gets what comes down next to it: the greatest count of all places that are free, the first of like ones
        String[] walls = {"", "wall 3 3;", "wall 3 3;wall 4 3;wall 5 3;", "wall 3 4;wall 5 5;wall 4 5;wall 3 5;"};
        for (String wall : walls) {
            int most = -1;
            int best = -1;
            for (int place = 0; place < 81; place++) {
                int many = 0;
                boolean free = !wall.contains("wall " + place % 9 + " " + place / 9 + ";");
                NoonHat x = Check.told(WIDE + wall);
                for (int toss = 0; toss < 33 && free; toss++) {
                    int c = x.toss(wayOf(toss), forceOf(toss), 2);
                    int r = x.toss(wayOf(toss), forceOf(toss), 3);
                    many += Math.abs(c - place % 9) <= 1 && Math.abs(r - place / 9) <= 1 ? 1 : 0;
                }
                if (free && many > most) {
                    most = many;
                    best = place;
                }
            }
            stand(wall, WIDE + wall + "person p at 8 8 tall 1 pace 0 does a;", 0, best % 9, best / 9, most);
        }
        CHECK.sentence("stand: NONE when there is none such, or for others");
        NoonHat x = sixPeople("");
        for (int what = 0; what <= 2; what++) {
            due("person 5", x.stand(5, what) >= 0 ? 1 : 0, 1);
            due("person 6", x.stand(6, what), -1);
            due("without a square", new NoonHat().stand(0, what), -1);
            for (int wrong : WRONG) {
                due("person " + wrong, x.stand(wrong, what), -1);
            }
        }
        for (int wrong : new int[] {Integer.MIN_VALUE, -1, 3, 4, Integer.MAX_VALUE}) {
            due("what " + wrong, x.stand(0, wrong), -1);
        }
    }

    /** Round from a way to another by steps of the clock. */
    private static int round(int a, int b) {
        if (a == b) {
            return 0;
        }
        if (a == 0 || b == 0) {
            return 1;
        }
        int steps = 0;
        int up = a;
        int down = a;
        while (up != b && down != b) {
            up = up == 8 ? 1 : up + 1;
            down = down == 1 ? 8 : down - 1;
            steps++;
        }
        return steps;
    }

    private static int leastChange(int way, int force, int column, int row) {
        int best = -1;
        int least = 99;
        for (int toss = 0; toss < 33; toss++) {
            int off = round(way, wayOf(toss)) + Math.abs(force - forceOf(toss));
            if (near(toss, column, row) && off < least) {
                best = toss;
                least = off;
            }
        }
        return best;
    }

    private static void dueChange(String what, NoonHat x, int person, int way, int force, int toss) {
        due(what + ": way", x.change(person, 0), toss < 0 ? -1 : wayOf(toss));
        due(what + ": force", x.change(person, 1), toss < 0 ? -1 : forceOf(toss));
        due(what + ": by how much", x.change(person, 2),
                toss < 0 ? -1 : round(way, wayOf(toss)) + Math.abs(force - forceOf(toss)));
    }

    private static void change() {
        CHECK.sentence("CHANGED: by how many WAYS round (0 is 1 from all others; 1 .. 8 the shorter way round) "
                + "and how much force, as told, it is off together; of like ones the first THROW");
        String text = WIDE + "person p at 8 8 tall 1 pace 0 does a;person q at 0 0 tall 0 pace 0 does b;";
        for (int place = 1; place < 81; place++) {
            NoonHat x = Check.at(Check.told(text), 5, 1, 1, 0);
            x.move(0, place % 9, place / 9);
            for (int way = 0; way <= 8; way++) {
                for (int force = 0; force <= 3; force++) {
                    x.train(1, way, force);
                    dueChange("from " + way + " " + force + " to " + place, x, 0, way, force,
                            leastChange(way, force, place % 9, place / 9));
                }
            }
        }
        CHECK.sentence("CHANGED: of HATLESS: by WAY 0, force 0");
        for (int place = 1; place < 81; place++) {
            NoonHat x = Check.told(text);
            x.train(0, 3, 2);
            x.train(1, 7, 3);
            x.move(0, place % 9, place / 9);
            dueChange("hatless to " + place, x, 0, 0, 0, leastChange(0, 0, place % 9, place / 9));
        }
        CHECK.sentence("by WAY 0, force 2 from that one of WAY 0 by 2");
        NoonHat x = Check.at(Check.told(ALONE), 5, 0, 1, 0);
        x.train(0, 0, 2);
        // on the tower he gets no throw of force 2: that of WAY 0 is off by 2, way 1 force 1 by 1 and 1, as much
        dueChange("to that one of WAY 0", x, 0, 0, 2, 0);
        x.move(0, 4, 2);
        dueChange("to way 1 force 2", x, 0, 0, 2, 3);
        x = Check.at(Check.told("square 2 by 2 tower 0 0 high 1;law a;person p at 0 0 tall 1 pace 0 does a;"), 5, 0, 1, 0);
        for (int force = 0; force <= 3; force++) {
            x.train(0, 0, force);
            due("way of force " + force, x.change(0, 0), force < 2 ? 0 : 1);
            due("force of force " + force, x.change(0, 1), force < 2 ? 0 : force);
            due("off of force " + force, x.change(0, 2), force < 2 ? force : 1);
        }
        noChange();
    }

    private static void noChange() {
        CHECK.sentence("change: NONE without, when there is none such, or for others");
        NoonHat x = Check.told(ALONE + "may not all;");
        NoonHat y = Check.told(ALONE);
        for (int what = 0; what <= 2; what++) {
            due("without", x.change(0, what), -1);
            due("with", y.change(0, what), 0);
            due("person 1 of 1", y.change(1, what), -1);
            due("without a square", new NoonHat().change(0, what), -1);
            for (int wrong : WRONG) {
                due("person " + wrong, y.change(wrong, what), -1);
            }
        }
        for (int wrong : new int[] {Integer.MIN_VALUE, -1, 3, 4, Integer.MAX_VALUE}) {
            due("what " + wrong, y.change(0, wrong), -1);
        }
    }

    // ---- ahead

    private static void later() {
        CHECK.sentence("60 at most, not beyond NOON 999; later: NONE when n can't be, without a square, or for others");
        String text = ALONE + "person q at 8 8 tall 1 pace 0 does b;";
        for (int noon : new int[] {0, 1, 938, 939, 940, 941, 998, 999}) {
            NoonHat x = Check.at(Check.told(text), noon, -1, 0, 0);
            for (int n : new int[] {Integer.MIN_VALUE, -1, 0, 1, 2, 57, 58, 59, 60, 61, 62, 100, Integer.MAX_VALUE}) {
                boolean can = n >= 0 && n <= 60 && noon + n <= 999;
                int who = n == 0 ? -1 : 0;
                due("later(" + n + ", 0) at " + noon, x.later(n, 0), can ? who : -1);
                due("later(" + n + ", 1) at " + noon, x.later(n, 1), can ? n : -1);
                due("later(" + n + ", 2) at " + noon, x.later(n, 2), can ? who : -1);
                due("later(" + n + ", 3) at " + noon, x.later(n, 3), -1);
                due("later(" + n + ", -1) at " + noon, x.later(n, -1), -1);
                due("lasts(0, " + n + ") at " + noon, x.lasts(0, n), can && n > 0 ? n : -1);
                due("lasts(1, " + n + ") at " + noon, x.lasts(1, n), can && n > 0 ? 0 : -1);
                due("lasts(2, " + n + ") at " + noon, x.lasts(2, n), -1);
                due("lasts(-1, " + n + ") at " + noon, x.lasts(-1, n), -1);
            }
            due("hatless() at " + noon, x.hatless(), -1);
            due("the noon stays", x.has(5), noon);
            due("wore stays", x.person(0, 7), 0);
        }
        NoonHat none = new NoonHat();
        for (int what = 0; what <= 2; what++) {
            due("without a square", none.later(0, what), -1);
            due("without a square", none.later(1, what), -1);
        }
        due("without a square", none.lasts(0, 1), -1);
        due("without a square", none.hatless(), -1);
        CHECK.sentence("lasts: NONE when there is none such");
        NoonHat x = Check.told(NOBODY);
        due("without laws", x.lasts(0, 1), -1);
        x = Check.told(NOBODY + Check.many("law #;", 6));
        due("law 5 of 6", x.lasts(5, 60), 0);
        due("law 6 of 6", x.lasts(6, 60), -1);
        for (int wrong : WRONG) {
            due("law " + wrong, x.lasts(wrong, 1), -1);
        }
    }

    private static void laterOfOthers() {
        CHECK.sentence("later: 0 who WEARS it (NONE), 1 terms, 2 the LAW in force (NONE)");
        NoonHat x = Check.told(WIDE + "person q at 0 0 tall 1 pace 0 does a;person r at 0 8 tall 1 pace 0 does a;"
                + "person p at 4 4 tall 1 pace 0 does b;may noon<3;");
        int[][] due = {{-1, 0, -1}, {2, 1, 1}, {2, 2, 1}, {2, 3, 1}, {-1, 0, -1}};
        for (int n = 0; n < due.length; n++) {
            for (int what = 0; what <= 2; what++) {
                due("later(" + n + ", " + what + ")", x.later(n, what), due[n][what]);
            }
        }
        due("b of 5", x.lasts(1, 5), 3);
        due("a of 5", x.lasts(0, 5), 0);
    }

    private static void hatless() {
        CHECK.sentence("hatless: Behind how many NOONS AHEAD (1 and on) none WEARS it first; NONE when one always does");
        for (int bound : new int[] {0, 1, 2, 58, 59, 60, 61, 200}) {
            NoonHat x = Check.told(ALONE + "may noon<" + bound + ";");
            due("may noon<" + bound, x.hatless(), bound < 60 ? bound + 1 : -1);
            for (int noon : new int[] {939, 940, 941, 950, 998}) {
                x = Check.at(Check.told(ALONE + "may noon<" + (noon + bound) + ";"), noon, -1, 0, 0);
                boolean ahead = bound < 60 && noon + bound + 1 <= 999;
                due("at " + noon + " may noon<" + (noon + bound), x.hatless(), ahead ? bound + 1 : -1);
            }
        }
        due("nobody", Check.told(NOBODY).hatless(), 1);
        due("nobody at 998", Check.at(Check.told(NOBODY), 998, -1, 0, 0).hatless(), 1);
        due("nobody at 999", Check.at(Check.told(NOBODY), 999, -1, 0, 0).hatless(), -1);
        CHECK.sentence("AHEAD are NOONS as they come from now on without DRAWS");
        NoonHat x = Check.told(ALONE + "gust 100;");
        NoonHat y = Check.told(ALONE + "gust 100;");
        due("without gusts", x.lasts(0, 60), 60);
        due("without gusts", x.later(60, 1), 60);
        due("without gusts", x.hatless(), -1);
        x.chance(50);
        y.chance(50);
        for (int k = 0; k < 40; k++) {
            due("no draw was made ahead", x.kept(k, 1), y.kept(k, 1));
        }
    }

    // ---- who wore it

    private static int[] zeros(int n) {
        return new int[n];
    }

    private static void see() {
        CHECK.sentence("see: 1 to 7 bytes: how many; NONE, refused (1), all staying, when it is none such");
        NoonHat x = Check.told(ALONE);
        int refused = 0;
        int held = 0;
        for (int n = 0; n <= 21; n++) {
            boolean can = n >= 1 && n <= 7;
            due("see of " + n, Check.see(x, zeros(n)), can ? n : -1);
            held = can ? n : held;
            refused += can ? 0 : 1;
            due("seen", x.has(10), held);
            due("refused", x.status(1), refused);
            due("the tape went", x.feed(0, 0, 0, 0, 0), 20);
        }
        for (int law : new int[] {0, 1, 2, 3, 6, 127, 128, 254, 255}) {
            boolean can = law < 2 || law == 255;
            x = Check.told(ALONE);
            for (int at = 0; at < 3; at++) {
                Check.see(x, 255);
                int[] bytes = {0, 0, 0};
                bytes[at] = law;
                due("law " + law + " at " + at, Check.see(x, bytes), can ? 3 : -1);
                due("seen", x.has(10), can ? 3 : 1);
                int first = can ? bytes[0] : 255;
                due("the first of them", x.wears(0), first == 0 ? 1 : first == 1 ? 0 : 64);
            }
        }
        due("no law but hatless", Check.see(Check.told(NOBODY), 255), 1);
        due("no law", Check.see(Check.told(NOBODY), 0), -1);
        NoonHat six = Check.told(NOBODY + Check.many("law #;", 6));
        due("law 5 of 6", Check.see(six, 5), 1);
        due("law 6 of 6", Check.see(six, 6), -1);
        CHECK.sentence("or NOON and how many together are above 999, or without a square");
        for (int noon = 990; noon <= 999; noon++) {
            for (int n = 1; n <= 7; n++) {
                x = Check.at(Check.told(ALONE), noon, -1, 0, 0);
                due("see of " + n + " at " + noon, Check.see(x, zeros(n)), noon + n <= 999 ? n : -1);
                due("seen", x.has(10), noon + n <= 999 ? n : 0);
                due("refused", x.status(1), noon + n <= 999 ? 0 : 1);
            }
        }
        x = new NoonHat();
        due("without a square", Check.see(x, 255), -1);
        due("refused", x.status(1), 1);
        due("the tape went", x.feed(0, 0, 0, 0, 0), 20);
    }

    private static void wears() {
        CHECK.sentence("wears: NONE when there is none such");
        NoonHat x = Check.told(ALONE);
        due("nothing is seen", x.wears(0), -1);
        for (int n = 1; n <= 7; n++) {
            Check.see(x, zeros(n));
            for (int k = -2; k <= 8; k++) {
                due("wears(" + k + ") of " + n, x.wears(k), k >= 0 && k < n ? 1 : -1);
            }
            for (int wrong : WRONG) {
                due("wears(" + wrong + ")", x.wears(wrong), -1);
            }
        }
        due("without a square", new NoonHat().wears(0), -1);
        CHECK.sentence("wears: who can WEAR it, as bits of PEOPLE; 64: it can be HATLESS, where 255 is SEEN; "
                + "0: it cannot be as SEEN");
        String head = "square 9 by 9 tower 4 4 high 1;law a;law b;law c;";
        int[][] places = {{1, 1}, {4, 1}, {7, 1}, {1, 4}, {7, 4}, {1, 7}};
        String text = head;
        int[] bits = {0, 0, 0};
        for (int p = 0; p < 6; p++) {
            text += "person x" + (char) ('a' + p) + " at " + places[p][0] + " " + places[p][1] + " tall 1 pace 0 does "
                    + "aab".charAt(p % 3) + ";";
            bits[p % 3 == 2 ? 1 : 0] |= 1 << p;
        }
        x = Check.told(text);
        Check.see(x, 0, 1, 2, 255);
        due("those of law a", x.wears(0), bits[0]);
        due("those of law b", x.wears(1), bits[1]);
        due("nobody of law c", x.wears(2), 0);
        due("none", x.wears(3), 64);
        x = Check.told("square 2 by 2 tower 0 0 high 1;law a;law b;person p at 1 1 tall 1 pace 0 does a;");
        Check.see(x, 0, 1, 255);
        due("always he", x.wears(0), 1);
        due("never b", x.wears(1), 0);
        due("never hatless", x.wears(2), 0);
        CHECK.sentence("if in each it was any of the 33 THROWS by its wind");
        for (int place = 0; place < 81; place++) {
            x = Check.told(WIDE + "person p at " + place % 9 + " " + place / 9 + " tall 1 pace 0 does b;");
            Check.see(x, 1, 255);
            int near = 0;
            for (int toss = 0; toss < 33; toss++) {
                near += near(toss, place % 9, place / 9) ? 1 : 0;
            }
            due("he can at " + place, x.wears(0), near > 0 ? 1 : 0);
            due("none can at " + place, x.wears(1), near < 33 ? 64 : 0);
        }
        CHECK.sentence("asked: the NOON in which most can; of like ones the first; NONE when nothing is SEEN, or for others");
        dueAsked(text, new int[] {0}, 0, 4);
        dueAsked(text, new int[] {1, 0}, 1, 4);
        dueAsked(text, new int[] {0, 1, 0}, 0, 4);
        dueAsked(text, new int[] {1, 255, 2, 1}, 0, 2);
        dueAsked(text, new int[] {2, 2, 255, 255}, 2, 1);
        dueAsked(text, new int[] {2, 2, 2, 2, 2, 2, 1}, 6, 2);
        dueAsked(text, new int[] {2, 2}, 0, 0);
        dueAsked(text, new int[] {255, 2}, 0, 1);
        x = Check.told(text);
        due("nothing is seen", x.asked(0), -1);
        due("nothing is seen", x.asked(1), -1);
        due("without a square", new NoonHat().asked(0), -1);
    }

    private static void dueAsked(String text, int[] seen, int noon, int many) {
        NoonHat x = Check.told(text);
        Check.see(x, seen);
        due("asked(0) of " + Arrays.toString(seen), x.asked(0), noon);
        due("asked(1) of " + Arrays.toString(seen), x.asked(1), many);
        due("asked(2)", x.asked(2), -1);
        for (int wrong : WRONG) {
            due("asked(" + wrong + ")", x.asked(wrong), -1);
        }
    }

    private static void seenNoons() {
        CHECK.sentence("the k-th is the NOON now and k, whenever it is asked; the NOON in winds, may is that one");
        NoonHat x = Check.told(ALONE + "may noon/2*2=noon;");
        Check.see(x, 0, 0, 0, 255, 255, 255, 255);
        for (int noon = 0; noon < 4; noon++) {
            for (int k = 0; k < 7; k++) {
                int due = k < 3 ? (noon + k) % 2 == 0 ? 1 : 0 : 64;
                due("wears(" + k + ") at " + noon, x.wears(k), due);
            }
            x.noons(1);
        }
        x = Check.told("square 9 by 2 tower 4 0 high 1;law a;person p at 0 0 tall 1 pace 0 does a;winds noon/2*3;");
        Check.see(x, 0, 0, 0);
        due("by force 3 it comes to 1 0", x.wears(0), 1);
        due("by force 3 it comes to 1 0", x.wears(1), 1);
        due("and drifts to 2 0 at noon 2", x.wears(2), 0);
        x.noons(1);
        due("noon 2 is the next but one no more", x.wears(1), 0);
        x = Check.told(ALONE + "may noon>999;");
        Check.at(x, 992, -1, 0, 0);
        Check.see(x, 0, 0, 0, 0, 0, 0, 0);
        for (int noon = 992; noon <= 999; noon++) {
            for (int k = 0; k < 7; k++) {
                due("wears(" + k + ") at " + noon, x.wears(k), noon + k > 999 ? 1 : 0);
            }
            due("asked(0) at " + noon, x.asked(0), noon < 994 ? 0 : 1000 - noon);
            x.noons(1);
        }
        CHECK.sentence("PEOPLE, WORE, terms as they are now");
        x = Check.told(ALONE + "may wore<2;");
        Check.see(x, 0, 0, 0);
        for (int noon = 0; noon < 3; noon++) {
            for (int k = 0; k < 3; k++) {
                due("wore: wears(" + k + ") at " + noon, x.wears(k), noon < 2 ? 1 : 0);
            }
            x.noons(1);
        }
        x = Check.told(ALONE + "may terms<2;");
        Check.see(x, 0, 0, 0);
        for (int noon = 0; noon < 3; noon++) {
            for (int k = 0; k < 3; k++) {
                due("terms: wears(" + k + ") at " + noon, x.wears(k), noon < 2 ? 1 : 0);
            }
            x.noons(1);
        }
        x = Check.told(ALONE);
        Check.see(x, 0, 255);
        x.move(0, 8, 4);
        due("he can where he stands now", x.wears(0), 1);
        x.move(0, 8, 8);
        due("all come near him now", x.wears(1), 64);
        CHECK.sentence("what is SEEN stays but for a square");
        Check.at(x, 999, -1, 0, 0);
        due("beyond noon 999", x.wears(1), 64);
        due("behind on()", x.has(10), 2);
        x.undo();
        due("behind undo()", x.has(10), 2);
        Check.square(x, "square 1");
        due("behind a refused square", x.has(10), 2);
        Check.square(x, ALONE);
        due("behind a square", x.has(10), 0);
        due("behind a square", x.wears(0), -1);
        due("behind a square", x.asked(0), -1);
    }

    public static void main(String[] args) {
        toss();
        likely();
        stands();
        change();
        later();
        laterOfOthers();
        hatless();
        see();
        wears();
        seenNoons();
        CHECK.end();
    }
}
