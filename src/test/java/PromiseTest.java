/** Each promise of the document by its number: ordinary inputs, the edges it names, wrong inputs. */
public final class PromiseTest {
    private static final Check CHECK = new Check("PromiseTest");
    /** Nobody near but p; the hat comes down where it is thrown in one beat. */
    private static final String SMALL = "square 3 by 3 tower 1 1 high 1;law a;law b;"
            + "person p at 0 0 tall 1 pace 0 does a spin 5 force 1;person q at 2 2 tall 1 pace 0 does b;";
    private static final String LARGE = "square 9 by 7 tower 4 3 high 9; law tax; law feast;"
            + "person ann at 0 0 tall 3 pace 1 does tax spin 3 force 2; wall 1 1; wall 8 6;"
            + "person bobbin at 8 0 tall 2 pace 2 does feast spin 7 force 3; winds noon + height; gust 30;";
    private static final int[] WRONG = {Integer.MIN_VALUE, -1, Integer.MAX_VALUE};

    private static void due(String what, long got, long want) {
        CHECK.due(what, got, want);
    }

    private static void due(String what, boolean got, boolean want) {
        CHECK.due(what, got, want);
    }

    private static void promise1NewObject() {
        NoonHat x = new NoonHat();
        int[] has = {0, 0, 0, 0, 0, 0, -1, -1, 0, 0, 0, 0};
        for (int what = 0; what < has.length; what++) {
            due("1: has(" + what + ")", x.has(what), has[what]);
        }
        due("1: place", x.place(0, 0), -1);
        due("1: fault", x.fault(0), 0);
        due("1: place of fault", x.fault(1), -1);
        due("1: octet", x.octet(0), -1);
        for (int what = 0; what < 6; what++) {
            due("1: status(" + what + ")", x.status(what), 0);
        }
    }

    private static void promise2Feed() {
        NoonHat x = new NoonHat();
        for (int k = 1; k <= 80; k++) {
            due("2: feed", x.feed(0x20202020, 0x20202020, 0x20202020, 0x20202020, 0x20202020), 20 * k);
        }
        due("2: feed a byte too many", x.feed(1, 2, 3, 4, 5), -1);
        due("2: refused", x.status(0), 1);
        due("2: square", x.square(), -1);
        due("2: all 1600 read", x.fault(1), 1600);
        x.feed(1, 2, 3, 4, 5);
        x.end(19);
        due("2: feed behind 19", x.feed(1, 2, 3, 4, 5), 39);
        x.end(0);
        // "square 2 by 2 tower ", then "1 0 high 3;" and blanks
        x.feed(0x73717561, 0x72652032, 0x20627920, 0x3220746f, 0x77657220);
        x.feed(0x31203020, 0x68696768, 0x20333b20, 0x20202020, 0x20202020);
        due("2: the highest first", x.square(), 1);
        due("2: hat of height 3 from 1 0", x.toss(0, 0, 1), 3);
        x.feed(-1, -1, -1, -1, -1);
        x.end(1);
        due("2: bytes are 0 to 255", x.see(), 1);
    }

    private static void promise3End() {
        NoonHat x = new NoonHat();
        due("3: none of none", x.end(0), true);
        due("3: one of none", x.end(1), false);
        x.feed(0, 0, 0, 0, 0);
        due("3: 21 of 20", x.end(21), false);
        due("3: -1", x.end(-1), false);
        due("3: 20 of 20", x.end(20), true);
        due("3: 7 of 20", x.end(7), true);
        due("3: 8 of 7", x.end(8), false);
        due("3: refused", x.status(0), 4);
        due("3: on", x.feed(0, 0, 0, 0, 0), 27);
    }

    private static void promise4Square() {
        NoonHat x = Check.told(SMALL);
        due("4: noons", x.noons(3), 3);
        x.seed(77);
        Check.see(x, 0, 1);
        x.image();
        due("4: refused", Check.square(x, SMALL + "law a;"), -1);
        due("4: the tape went", x.feed(0, 0, 0, 0, 0), 20);
        due("4: all stays", x.has(0), 3);
        due("4: noon stays", x.has(5), 3);
        due("4: kept stays", x.has(9), 3);
        due("4: seen stays", x.has(10), 2);
        due("4: acts stay", x.has(11), 1);
        due("4: status", x.status(1), 1);
        due("4: LARGE", Check.square(x, LARGE), 9);
        due("4: the tape went", x.feed(0, 0, 0, 0, 0), 20);
        int[] has = {9, 7, 2, 2, 2, 0, -1, -1, 0, 0, 0, 0};
        for (int what = 0; what < has.length; what++) {
            due("4: has(" + what + ")", x.has(what), has[what]);
        }
        due("4: undo", x.undo(), false);
        due("4: refused stays", x.status(1), 1);
        due("4: image stays", x.octet(1), 3);
        due("4: the last byte stays", x.octet(16), sealed(0, 3, 1, 1, 0, 0, 5, 1, 0, 2, 2, 2, 0, 0, 0, 1)[16]);
        NoonHat y = Check.told(LARGE);
        y.seed(77);
        due("4: seed stays", x.chance(50), y.chance(50));
        due("4: WORE is new", Check.square(x, SMALL), 5);
        due("4: WORE is 0", x.person(0, 7), 0);
    }

    private static void promise5Fault() {
        NoonHat x = new NoonHat();
        Check.ask(x, "?");
        due("5: ask without a square", x.fault(0), 0);
        Check.square(x, "square 1");
        due("5: fault", x.fault(0), 2);
        due("5: place", x.fault(1), 7);
        Check.ask(x, "?");
        due("5: stays without a square", x.fault(0), 2);
        due("5: other", x.fault(2), -1);
        due("5: other", x.fault(-1), -1);
        Check.square(x, SMALL);
        due("5: none", x.fault(0), 0);
        due("5: no place", x.fault(1), -1);
        Check.ask(x, "first ((((((( 1");
        due("5: of ask", x.fault(0), 4);
        due("5: place", x.fault(1), 12);
        Check.see(x, 9);
        due("5: see tells none", x.fault(0), 4);
        Check.ask(x, "first all");
        due("5: none", x.fault(0), 0);
        due("5: no place", x.fault(1), -1);
    }

    private static void promise6Has() {
        NoonHat x = Check.told(LARGE);
        Check.see(x, 0, 1, 255);
        x.noons(1);
        x.move(0, 0, 1);
        int[] has = {9, 7, 2, 2, 2, 1, x.later(0, 0), x.later(0, 2), x.later(0, 1), 1, 3, 2, -1};
        for (int what = 0; what < has.length; what++) {
            due("6: has(" + what + ")", x.has(what), has[what]);
        }
        due("6: has(-1)", x.has(-1), -1);
        x = Check.told(SMALL);
        x.noons(2);
        due("6: q wears", x.has(6), 1);
        due("6: b in force", x.has(7), 1);
        due("6: terms", x.has(8), 1);
        x.noons(41 - 2);
        due("6: 40 kept", x.has(9), 40);
        for (int k = 0; k < 25; k++) {
            x.train(0, 1, k % 2);
        }
        due("6: 20 acts", x.has(11), 20);
    }

    private static void promise7Letter() {
        NoonHat x = Check.told(LARGE);
        String[][] names = {{"tax", "feast"}, {"ann", "bobbin"}};
        for (int kind = 0; kind < 2; kind++) {
            for (int which = 0; which < 2; which++) {
                for (int k = 0; k < 6; k++) {
                    String name = names[kind][which];
                    due("7: letter", x.letter(kind, which, k), k < name.length() ? name.charAt(k) - 96 : 0);
                }
                due("7: letter 6", x.letter(kind, which, 6), -1);
                due("7: letter -1", x.letter(kind, which, -1), -1);
            }
            due("7: which 2", x.letter(kind, 2, 0), -1);
            due("7: which -1", x.letter(kind, -1, 0), -1);
        }
        due("7: kind 2", x.letter(2, 0, 0), -1);
        due("7: kind -1", x.letter(-1, 0, 0), -1);
        Check.square(x, "square 2 by 2 tower 0 0 high 1; law z; law azzzzz; law zaaaaz;");
        due("7: z", x.letter(0, 0, 0), 26);
        due("7: behind z", x.letter(0, 0, 1), 0);
        due("7: azzzzz", x.letter(0, 1, 0), 1);
        due("7: azzzzz", x.letter(0, 1, 5), 26);
        due("7: zaaaaz", x.letter(0, 2, 4), 1);
        due("7: nobody", x.letter(1, 0, 0), -1);
    }

    private static void promise8Person() {
        NoonHat x = Check.told(LARGE);
        int[][] people = {{0, 0, 3, 1, 0, 3, 2, 0, -1}, {8, 0, 2, 2, 1, 7, 3, 0, -1}};
        for (int p = 0; p < 2; p++) {
            for (int what = 0; what < 9; what++) {
                due("8: person(" + p + "," + what + ")", x.person(p, what), people[p][what]);
            }
        }
        for (int wrong : WRONG) {
            due("8: none such", x.person(wrong, 0), -1);
            due("8: other", x.person(0, wrong), -1);
        }
        due("8: none such", x.person(2, 0), -1);
        x = Check.told("square 3 by 3 tower 1 1 high 1;law a;person p at 0 0 tall 1 pace 0 does a;");
        x.noons(7);
        due("8: wore", x.person(0, 7), 7);
    }

    private static void promise9Place() {
        NoonHat x = Check.told(LARGE);
        due("9: ann", x.place(0, 0), 0);
        due("9: bobbin", x.place(8, 0), 1);
        due("9: a wall", x.place(1, 1), 100);
        due("9: a wall", x.place(8, 6), 100);
        due("9: the tower", x.place(4, 3), -1);
        due("9: beyond", x.place(8, 7), -1);
        due("9: beyond", x.place(9, 0), -1);
        due("9: beyond", x.place(-1, 0), -1);
        due("9: beyond", x.place(0, -1), -1);
        x.move(0, 4, 3);
        due("9: moved", x.place(4, 3), 0);
        due("9: left", x.place(0, 0), -1);
    }

    private static void promise10Kept() {
        NoonHat x = Check.told("square 2 by 2 tower 0 0 high 2;law a;person p at 1 1 tall 1 pace 0 does a;may noon>0;");
        due("10: none", x.kept(0, 0), -1);
        x.noons(2);
        int[][] kept = {{0, 255, 2, -1}, {1, 0, 1, -1}};
        for (int k = 0; k < 2; k++) {
            for (int what = 0; what < 4; what++) {
                due("10: kept(" + k + "," + what + ")", x.kept(k, what), x.has(9) > k ? kept[k][what] : -2);
            }
        }
        due("10: kept(2)", x.kept(2, 0), -1);
        due("10: kept(-1)", x.kept(-1, 0), -1);
        due("10: other", x.kept(0, -1), -1);
        x.noons(38);
        due("10: the oldest of 40", x.kept(0, 0), 0);
        x.noons(100);
        due("10: the oldest of the last 40", x.kept(0, 0), 100);
        due("10: the latest", x.kept(39, 0), 139);
        due("10: none behind", x.kept(40, 0), -1);
        x.undo();
        due("10: undone, the older ones again", x.kept(0, 0), 0);
        due("10: undone, 40", x.has(9), 40);
        x.undo();
        due("10: undone, 2", x.has(9), 2);
    }

    private static void promise11Toss() {
        NoonHat x = Check.told("square 4 by 4 tower 1 1 high 3;law a;person p at 3 3 tall 2 pace 0 does a;wall 0 1;"
                + "winds 3*(1-noon)+(0-1)*noon;");
        // winds 3 at noon 0: a column more each beat, at the edge it stays
        due("11: none gets it", x.toss(1, 0, 0), -1);
        due("11: down in 3", x.toss(1, 0, 1), 3);
        due("11: at column 3", x.toss(1, 0, 2), 3);
        due("11: row 1", x.toss(1, 0, 3), 1);
        due("11: two rows more, next to him when high 2", x.toss(5, 1, 0), 0);
        due("11: in beat 1", x.toss(5, 1, 1), 1);
        due("11: at column 2", x.toss(5, 1, 2), 2);
        due("11: not onto the wall", x.toss(7, 1, 2), 3);
        due("11: past the corner by columns and rows", x.toss(8, 3, 3), 0);
        due("11: way 0 goes nowhere", x.toss(0, 3, 3), 1);
        for (int[] none : new int[][] {{9, 0, 0}, {-1, 0, 0}, {0, 4, 0}, {0, -1, 0}, {0, 0, 4}, {0, 0, -1}}) {
            due("11: none such", x.toss(none[0], none[1], none[2]), -1);
        }
        x.noons(1);
        // -1 modulo 9 is 8: a row and a column less, from column 1 row 1 and then at the corner
        due("11: winds below 0", x.toss(0, 0, 2) * 10 + x.toss(0, 0, 3), 0);
        due("11: without a square", new NoonHat().toss(0, 0, 0), -1);
        // who gets it: the tallest, then the nearest, then the first
        String two = "square 5 by 5 tower 2 2 high 1;law a;";
        x = Check.told(two + "person p at 2 2 tall 1 pace 0 does a;person q at 1 1 tall 2 pace 0 does a;");
        due("11: the tallest", x.toss(0, 0, 0), 1);
        x = Check.told(two + "person p at 1 1 tall 2 pace 0 does a;person q at 2 2 tall 2 pace 0 does a;");
        due("11: the nearest", x.toss(0, 0, 0), 1);
        x = Check.told(two + "person p at 1 1 tall 2 pace 0 does a;person q at 3 2 tall 2 pace 0 does a;");
        due("11: the first", x.toss(0, 0, 0), 0);
        x = Check.told(two + "person p at 1 1 tall 2 pace 0 does a;person q at 3 2 tall 1 pace 0 does a; may tall<2;");
        due("11: who may", x.toss(0, 0, 0), 1);
        // he runs by ways 1..8 of like places: to 1 2 by way 3, with 1 1 (way 2) a wall
        x = Check.told("square 5 by 5 tower 2 2 high 2;law a;wall 1 1;person p at 0 2 tall 1 pace 1 does a;"
                + "person q at 1 2 tall 0 pace 0 does a;");
        due("11: round the wall and him", x.toss(0, 0, 0), 0);
        due("11: in beat 1", x.toss(0, 0, 1), 1);
        x = Check.told("square 5 by 5 tower 2 2 high 2;law a;wall 1 1;wall 1 3;person p at 0 2 tall 1 pace 2 does a;"
                + "person q at 1 2 tall 0 pace 0 does a;");
        due("11: no way through", x.toss(0, 0, 1), 2);
        due("11: got at height 0 by q", x.toss(0, 0, 0), 1);
        x = Check.told("square 9 by 9 tower 8 8 high 3;law a;person p at 2 2 tall 2 pace 2 does a;");
        due("11: two steps a beat, got at height 0", x.toss(0, 0, 1), 3);
        x = Check.told("square 9 by 9 tower 8 8 high 2;law a;person p at 2 2 tall 2 pace 2 does a;");
        due("11: too far", x.toss(0, 0, 0), -1);
    }

    private static void promise12Likely() {
        NoonHat x = Check.told(SMALL);
        due("12: p", x.likely(0, 0), 0);
        due("12: p", x.likely(0, 1), 18);
        due("12: q", x.likely(1, 0), 10);
        due("12: q", x.likely(1, 1), 9);
        for (int wrong : new int[] {-1, 2, 6, 99}) {
            due("12: none such", x.likely(wrong, 1), -1);
            due("12: other", x.likely(0, wrong), -1);
        }
        x = Check.told("square 3 by 3 tower 1 1 high 1;law a;person p at 0 0 tall 1 pace 0 does a;may not all;");
        due("12: none", x.likely(0, 0), -1);
        due("12: none", x.likely(0, 1), 0);
    }

    private static void promise13Stand() {
        NoonHat x = Check.told(SMALL);
        due("13: column", x.stand(0, 0), 1);
        due("13: row", x.stand(0, 1), 1);
        due("13: how many", x.stand(0, 2), 30);
        due("13: he stays", x.person(0, 0), 0);
        due("13: other", x.stand(0, 3), -1);
        due("13: other", x.stand(0, -1), -1);
        due("13: none such", x.stand(2, 0), -1);
        due("13: none such", x.stand(-1, 0), -1);
        x = Check.told("square 3 by 2 tower 1 0 high 1;law a;wall 0 0;person q at 2 0 tall 0 pace 0 does a;"
                + "person p at 1 1 tall 1 pace 0 does a;may not all;");
        due("13: of like ones the first, his or free", x.stand(1, 0), 1);
        due("13: row 0", x.stand(1, 1), 0);
        due("13: none", x.stand(1, 2), 0);
        due("13: his own is free for him", x.stand(0, 0) + 10 * x.stand(0, 1), 1);
    }

    private static void promise14Change() {
        NoonHat x = Check.told(SMALL);
        due("14: to p it is that one", x.change(0, 2), 0);
        due("14: to q way", x.change(1, 0), 3);
        due("14: to q force", x.change(1, 1), 1);
        due("14: to q by", x.change(1, 2), 2);
        for (int wrong : new int[] {-1, 3, 6, 99}) {
            due("14: none such", x.change(wrong, 0), -1);
            due("14: other", x.change(0, wrong), -1);
        }
        x.noons(1);
        // p throws by way 0, force 2, as told: to number 0 it is off by 2, to way 1 force 2 by 1
        x.train(0, 0, 2);
        due("14: by way 0 the force counts", x.change(1, 2), 1);
        due("14: way 3", x.change(1, 0), 3);
        due("14: force 2", x.change(1, 1), 2);
        due("14: p himself", x.change(0, 2), 1);
        due("14: the first throw of like ones", x.change(0, 0), 1);
        x.train(0, 8, 3);
        // 8 to 3 is 3 round the shorter way (8, 1, 2, 3), to 4 and 5 4 and 3
        due("14: round", x.change(1, 2), 3);
        due("14: round to way", x.change(1, 0), 3);
        due("14: round with force", x.change(1, 1), 3);
        x = Check.told("square 3 by 3 tower 1 1 high 1;law a;person p at 0 0 tall 1 pace 0 does a;may not all;");
        due("14: none", x.change(0, 0), -1);
        due("14: none", x.change(0, 2), -1);
    }

    private static void promise15Later() {
        NoonHat x = Check.told(SMALL);
        int[][] want = {{-1, 0, -1}, {0, 1, 0}, {1, 1, 1}, {0, 1, 0}};
        for (int n = 0; n < want.length; n++) {
            for (int what = 0; what < 3; what++) {
                due("15: later(" + n + "," + what + ")", x.later(n, what), want[n][what]);
            }
        }
        due("15: 60", x.later(60, 0), 1);
        due("15: 61", x.later(61, 0), -1);
        due("15: -1", x.later(-1, 0), -1);
        due("15: other", x.later(1, 3), -1);
        due("15: other", x.later(1, -1), -1);
        due("15: nothing comes of it", x.has(5), 0);
        due("15: without a square", new NoonHat().later(0, 1), -1);
        for (int k = 0; k < 9; k++) {
            x.noons(100);
        }
        x.noons(98);
        due("15: noon 998, one more", x.later(1, 1), 1);
        due("15: noon 998, two more", x.later(2, 1), -1);
        due("15: noon 998, two more", x.lasts(0, 2), -1);
    }

    private static void promise16Lasts() {
        NoonHat x = Check.told(SMALL);
        due("16: a of 5", x.lasts(0, 5), 3);
        due("16: b of 5", x.lasts(1, 5), 2);
        due("16: a of 60", x.lasts(0, 60), 30);
        due("16: none such", x.lasts(2, 5), -1);
        due("16: none such", x.lasts(-1, 5), -1);
        due("16: n 0", x.lasts(0, 0), -1);
        due("16: n 61", x.lasts(0, 61), -1);
        due("16: n -1", x.lasts(0, -1), -1);
        due("16: without a square", new NoonHat().lasts(0, 1), -1);
    }

    private static void promise17Hatless() {
        due("17: always one", Check.told(SMALL).hatless(), -1);
        due("17: without a square", new NoonHat().hatless(), -1);
        NoonHat x = Check.told("square 2 by 2 tower 0 0 high 1;law a;person p at 1 1 tall 1 pace 0 does a;may terms<3;");
        due("17: behind 4", x.hatless(), 4);
        x.noons(2);
        due("17: behind 2", x.hatless(), 2);
        x = Check.told("square 2 by 2 tower 0 0 high 1;law a;person p at 1 1 tall 1 pace 0 does a;may noon<60;");
        due("17: not in 60", x.hatless(), -1);
        x.noons(1);
        due("17: the 60th", x.hatless(), 60);
        x = Check.told("square 2 by 2 tower 0 0 high 1;");
        due("17: nobody", x.hatless(), 1);
        for (int k = 0; k < 9; k++) {
            x.noons(100);
        }
        x.noons(99);
        due("17: none ahead", x.hatless(), -1);
    }

    private static void promise18See() {
        NoonHat x = Check.told(SMALL);
        due("18: 7", Check.see(x, 0, 1, 255, 0, 0, 0, 0), 7);
        due("18: the tape went", x.feed(0, 0, 0, 0, 0), 20);
        due("18: 1", Check.see(x, 255), 1);
        due("18: has", x.has(10), 1);
        due("18: none", Check.see(x), -1);
        due("18: 8", Check.see(x, 0, 0, 0, 0, 0, 0, 0, 0), -1);
        due("18: law 2", Check.see(x, 0, 2), -1);
        due("18: the tape went, refused", x.feed(0, 0, 0, 0, 0), 20);
        due("18: 254", Check.see(x, 254), -1);
        due("18: without a square", Check.see(new NoonHat(), 255), -1);
        due("18: refused", x.status(1), 4);
        due("18: stays", x.wears(0), 64);
        for (int k = 0; k < 9; k++) {
            x.noons(100);
        }
        x.noons(95);
        due("18: above 999", Check.see(x, 0, 0, 0, 0, 0), -1);
        due("18: 999", Check.see(x, 0, 0, 0, 0), 4);
        due("18: undo leaves it", x.undo() && x.has(10) == 4, true);
    }

    private static void promise19Wears() {
        NoonHat x = Check.told(SMALL.replace("does b", "does a"));
        Check.see(x, 0, 1, 255, 0);
        due("19: p and q", x.wears(0), 3);
        due("19: none does b", x.wears(1), 0);
        due("19: hatless", x.wears(2), 64);
        due("19: none such", x.wears(4), -1);
        due("19: none such", x.wears(-1), -1);
        x = Check.told("square 3 by 3 tower 1 1 high 1;law a;law b;person p at 1 1 tall 1 pace 0 does a;may noon=2 and wore=0;");
        Check.see(x, 0, 255, 0, 255);
        due("19: not at noon 0", x.wears(0), 0);
        due("19: none at noon 1", x.wears(1), 64);
        due("19: at noon 2", x.wears(2), 1);
        x.noons(1);
        due("19: asked at noon 1, the next noon is 2", x.wears(1), 0);
        due("19: noon 1 now", x.wears(0), 0);
        x.noons(1);
        due("19: noon 2 now", x.wears(0), 1);
        x.noons(1);
        due("19: noon 3 now", x.wears(0), 0);
    }

    private static void promise20Asked() {
        NoonHat x = Check.told(SMALL.replace("does b", "does a"));
        due("20: nothing seen", x.asked(0), -1);
        due("20: nothing seen", x.asked(1), -1);
        Check.see(x, 1, 255, 0, 0);
        due("20: noon", x.asked(0), 2);
        due("20: how many", x.asked(1), 2);
        due("20: other", x.asked(2), -1);
        due("20: other", x.asked(-1), -1);
        Check.see(x, 1, 255);
        due("20: none counts", x.asked(0), 1);
        due("20: none counts as one", x.asked(1), 1);
        Check.see(x, 1, 1);
        due("20: the first of like ones", x.asked(0), 0);
        due("20: it cannot be", x.asked(1), 0);
    }

    private static void promise21Move() {
        NoonHat x = Check.told(LARGE);
        due("21: moves", x.move(0, 8, 5), true);
        due("21: he is there", x.place(8, 5), 0);
        due("21: he stands there", x.move(0, 8, 5), false);
        due("21: another does", x.move(1, 8, 5), false);
        due("21: a wall", x.move(1, 1, 1), false);
        due("21: none such", x.move(2, 3, 3), false);
        due("21: none such", x.move(-1, 3, 3), false);
        due("21: no such place", x.move(0, 9, 0), false);
        due("21: no such place", x.move(0, 0, 7), false);
        due("21: no such place", x.move(0, -1, 0), false);
        due("21: refused", x.status(2), 8);
        due("21: the tower", x.move(1, 4, 3), true);
        due("21: acts", x.has(11), 2);
    }

    private static void promise22Train() {
        NoonHat x = Check.told(LARGE);
        due("22: trains", x.train(0, 8, 3), true);
        due("22: way", x.person(0, 5), 8);
        due("22: force", x.person(0, 6), 3);
        due("22: so already", x.train(0, 8, 3), false);
        due("22: way 9", x.train(0, 9, 3), false);
        due("22: way -1", x.train(0, -1, 3), false);
        due("22: force 4", x.train(0, 0, 4), false);
        due("22: force -1", x.train(0, 0, -1), false);
        due("22: none such", x.train(2, 0, 0), false);
        due("22: refused", x.status(2), 6);
        due("22: way 0 with a force", x.train(0, 0, 3), true);
        due("22: way 0 with another", x.train(0, 0, 0), true);
        due("22: acts", x.has(11), 3);
    }

    private static void promise23Noons() {
        NoonHat x = Check.told("square 2 by 2 tower 0 0 high 1;law a;person p at 1 1 tall 1 pace 0 does a;may terms<3;");
        due("23: in 3 of 4", x.noons(4), 3);
        due("23: one act", x.has(11), 1);
        due("23: noon", x.has(5), 4);
        due("23: 0", x.noons(0), -1);
        due("23: 101", x.noons(101), -1);
        due("23: -1", x.noons(-1), -1);
        due("23: without a square", new NoonHat().noons(1), -1);
        due("23: 100", x.noons(100), 75);
        for (int k = 0; k < 8; k++) {
            x.noons(100);
        }
        due("23: above 999", x.noons(96), -1);
        due("23: to 999", x.noons(95), 72);
        due("23: no more", x.noons(1), -1);
        due("23: refused", x.status(3), 5);
        due("23: noon 999", x.has(5), 999);
        x = Check.told("square 2 by 2 tower 0 0 high 1;law a;person p at 1 1 tall 1 pace 0 does a;");
        x.noons(98);
        due("23: terms 98", x.has(8), 98);
        x.noons(3);
        due("23: terms 99 at most", x.has(8), 99);
        due("23: wore 101", x.person(0, 7), 101);
        Check.on(x, sealed(0, 5, 1, 99, 1, 1, 0, 0, 3, 230));
        x.noons(3);
        due("23: wore 999 at most", x.person(0, 7), 999);
    }

    private static void promise24Chance() {
        String text = "square 9 by 9 tower 4 4 high 2; law a; person p at 0 0 tall 0 pace 0 does a;";
        NoonHat x = Check.told(text);
        // a draw of 100 in each beat, even without gusts: the seed goes on by four
        due("24: no gusts", x.chance(2), 0);
        long seed = 1;
        for (int k = 0; k < 4; k++) {
            seed = (1103515245L * seed + 12345) % (1L << 31);
        }
        NoonHat y = Check.told(text + "gust 100;");
        Check.square(x, text + "gust 100;");
        y.seed((int) seed);
        due("24: gusts in each beat", x.chance(5), 10);
        due("24: the same seed", y.chance(5), 10);
        due("24: the same", x.kept(4, 2), y.kept(4, 2));
        // from seed 1: draws of 100 and 9 by hand, the hat goes by the second
        x = Check.told("square 9 by 9 tower 4 4 high 1; law a; person p at 3 4 tall 9 pace 0 does a; winds 3; gust 100;");
        long one = (1103515245L + 12345) % (1L << 31);
        long two = (1103515245L * one + 12345) % (1L << 31);
        due("24: draw of 9 by hand", two / 64 % 9, 0);
        due("24: without a gust it is too far", x.later(1, 0), -1);
        due("24: one gust", x.chance(1), 1);
        due("24: the wind was 0", x.has(6), 0);
        due("24: 0", x.chance(0), -1);
        due("24: 101", x.chance(101), -1);
        due("24: without a square", new NoonHat().chance(1), -1);
        due("24: refused", x.status(3), 2);
        due("24: one act", x.has(11), 1);
        for (int k = 0; k < 9; k++) {
            x.chance(100);
        }
        due("24: above 999", x.chance(99), -1);
        due("24: 999", x.chance(98) > 0, true);
    }

    private static void promise25Undo() {
        NoonHat x = Check.told(LARGE);
        due("25: none", x.undo(), false);
        due("25: refused", x.status(4), 1);
        int[] first = Check.picture(x);
        x.move(0, 0, 1);
        x.train(0, 1, 1);
        int[] then = Check.picture(x);
        x.noons(5);
        x.chance(5);
        due("25: chance", x.undo(), true);
        due("25: noon 5", x.has(5), 5);
        due("25: kept 5", x.has(9), 5);
        due("25: noons", x.undo(), true);
        due("25: as then", java.util.Arrays.equals(Check.picture(x), then), true);
        due("25: kept none", x.has(9), 0);
        due("25: train", x.undo() && x.undo(), true);
        due("25: as at first", java.util.Arrays.equals(Check.picture(x), first), true);
        due("25: no more", x.undo(), false);
        for (int k = 0; k < 30; k++) {
            x.train(0, 8, k % 3);
        }
        int undone = 0;
        while (x.undo()) {
            undone++;
        }
        due("25: the last 20", undone, 20);
        due("25: what stands", x.person(0, 6), 0);
        due("25: what stands", x.person(0, 5), 8);
        // the seed stays: chance, undo, chance is not the same as chance alone
        NoonHat y = Check.told(LARGE);
        NoonHat z = Check.told(LARGE);
        y.chance(3);
        y.undo();
        z.chance(3);
        Check.square(z, LARGE);
        due("25: the seed stays", y.chance(20), z.chance(20));
    }

    private static void promise26Seed() {
        NoonHat x = Check.told(LARGE);
        NoonHat y = Check.told(LARGE);
        due("26: 1 at first", y.seed(1), true);
        due("26: 1 at first", x.chance(20), y.chance(20));
        due("26: below 0", x.seed(-1), false);
        due("26: below 0", x.seed(Integer.MIN_VALUE), false);
        due("26: refused", x.status(5), 2);
        due("26: 0", x.seed(0), true);
        due("26: the greatest", x.seed(Integer.MAX_VALUE), true);
        y.seed(Integer.MAX_VALUE);
        due("26: the same", x.chance(20), y.chance(20));
        due("26: without a square", new NoonHat().seed(5), true);
    }

    private static void promise27Ask() {
        NoonHat x = Check.told(SMALL);
        Object[][] all = {{"first all", 0}, {"last all", 1}, {"often all", 2}, {"first number>1", -1},
            {"last number>1", -1}, {"often number>1", 0}, {"total gets", 27}, {"most gets", 18}, {"least gets", 9},
            {"total 9999*9999", 2000000}, {"least 0-9999*9999", -1000000}, {"total 0-9999*9999", -2000000},
            {"most (0-7)/2", -4}, {"most 7/(0-2)", -4}, {"most 7/0", 0}, {"most 2+3*4-5/2", 12},
            {"most 20-5-3", 12}, {"most 100/5/2*3", 30}, {"most min(3,2)*max(3,2)", 6},
            {"total column*10+row", 22}, {"total tall", 2}, {"total pace", 0}, {"total wore", 0}, {"total terms", 0},
            {"total force", 1}, {"total spin 5", 1}, {"total spin 0", 1}, {"total spin(2+3)*10", 10},
            {"first number=1 or number=0 and not all", 1}, {"first [number=1 or number=0] and not number=0", 1},
            {"first not not 1<2", 0}, {"total noon", 0}};
        for (Object[] one : all) {
            due("27: " + one[0], Check.ask(x, (String) one[0]), (Integer) one[1]);
        }
        x.noons(4);
        due("27: wore", Check.ask(x, "total wore*100+terms*10+noon"), 418);
        due("27: the tape went", x.feed(0, 0, 0, 0, 0), 20);
        due("27: a fault", Check.ask(x, "first ?"), NoonHat.NOTHING);
        due("27: the tape went", x.feed(0, 0, 0, 0, 0), 20);
        Check.square(x, "square 2 by 2 tower 0 0 high 1;");
        due("27: most without people", Check.ask(x, "most 5"), 0);
        due("27: least without people", Check.ask(x, "least 5"), 0);
        due("27: total without people", Check.ask(x, "total 5"), 0);
        due("27: first without people", Check.ask(x, "first all"), -1);
        due("27: often without people", Check.ask(x, "often all"), 0);
        NoonHat y = new NoonHat();
        due("27: without a square", Check.ask(y, "often all"), NoonHat.NOTHING);
        due("27: without a square the tape goes", y.feed(0, 0, 0, 0, 0), 20);
    }

    private static int[] sealed(int... bytes) {
        return Check.sealed(bytes);
    }

    private static void duePicture(String what, NoonHat x, int... want) {
        due(what + ": how many", x.image(), want.length);
        for (int k = 0; k < want.length; k++) {
            due(what + ": octet(" + k + ")", x.octet(k), want[k]);
        }
    }

    private static void promise28Image() {
        NoonHat x = new NoonHat();
        duePicture("28: without a square", x, 0, 0, 0, 0, 42);
        Check.square(x, SMALL);
        duePicture("28: at first", x, sealed(0, 0, 0, 0, 0, 0, 5, 1, 0, 0, 2, 2, 0, 0, 0, 0));
        for (int k = 0; k < 6; k++) {
            x.noons(100);
        }
        duePicture("28: noon 600", x, sealed(2, 88, 2, 1, 0, 0, 5, 1, 1, 44, 2, 2, 0, 0, 1, 44));
    }

    private static void promise29Octet() {
        NoonHat x = Check.told(SMALL);
        due("29: no image", x.octet(0), -1);
        x.image();
        x.noons(1);
        due("29: the latest image", x.octet(1), 0);
        x.image();
        due("29: now", x.octet(1), 1);
        due("29: behind", x.octet(17), -1);
        due("29: the last", x.octet(16) >= 0, true);
        due("29: -1", x.octet(-1), -1);
        Check.square(x, "square 2 by 2 tower 0 0 high 1;");
        due("29: stays", x.octet(1), 1);
        x.image();
        due("29: a shorter one", x.octet(5), -1);
    }

    private static void promise30On() {
        NoonHat x = Check.told(SMALL + "wall 0 2;");
        x.noons(2);
        Check.see(x, 0);
        due("30: on", Check.on(x, sealed(3, 231, 2, 99, 1, 1, 8, 3, 3, 231, 2, 0, 0, 2, 1, 0)), true);
        due("30: the tape went", x.feed(0, 0, 0, 0, 0), 20);
        int[] has = {3, 3, 2, 2, 1, 999, 1, 1, 99, 0, 1, 0};
        for (int what = 0; what < has.length; what++) {
            due("30: has(" + what + ")", x.has(what), has[what]);
        }
        int[][] people = {{1, 1, 1, 0, 0, 8, 3, 999}, {2, 0, 1, 0, 1, 0, 2, 256}};
        for (int p = 0; p < 2; p++) {
            for (int what = 0; what < 8; what++) {
                due("30: person(" + p + "," + what + ")", x.person(p, what), people[p][what]);
            }
        }
        due("30: undo", x.undo(), false);
        int[][] none = {{3, 232, 2, 9, 1, 1, 8, 3, 3, 231, 2, 0, 0, 2, 1, 0}, {0, 0, 3, 9, 1, 1, 8, 3, 0, 0, 2, 0, 0, 2, 1, 0},
            {0, 0, 2, 100, 1, 1, 8, 3, 0, 0, 2, 0, 0, 2, 1, 0}, {0, 0, 2, 0, 1, 1, 8, 3, 0, 0, 2, 0, 0, 2, 1, 0},
            {0, 0, 0, 1, 1, 1, 8, 3, 0, 0, 2, 0, 0, 2, 1, 0}, {0, 0, 0, 0, 0, 2, 8, 3, 0, 0, 2, 0, 0, 2, 1, 0},
            {0, 0, 0, 0, 3, 1, 8, 3, 0, 0, 2, 0, 0, 2, 1, 0}, {0, 0, 0, 0, 1, 3, 8, 3, 0, 0, 2, 0, 0, 2, 1, 0},
            {0, 0, 0, 0, 1, 1, 9, 3, 0, 0, 2, 0, 0, 2, 1, 0}, {0, 0, 0, 0, 1, 1, 8, 4, 0, 0, 2, 0, 0, 2, 1, 0},
            {0, 0, 0, 0, 1, 1, 8, 3, 3, 232, 2, 0, 0, 2, 1, 0}, {0, 0, 0, 0, 1, 1, 8, 3, 0, 0, 1, 1, 0, 2, 1, 0},
            {0, 0, 0, 0, 1, 1, 8, 3, 0, 0}, {0, 0, 0, 0, 1, 1, 8, 3, 0, 0, 2, 0, 0, 2, 1, 0, 0}, {}};
        for (int k = 0; k < none.length; k++) {
            due("30: none, row " + k, Check.on(x, sealed(none[k])), false);
        }
        int[] spoiled = sealed(0, 0, 0, 0, 1, 1, 8, 3, 0, 0, 2, 0, 0, 2, 1, 0);
        spoiled[16]++;
        due("30: the last byte", Check.on(x, spoiled), false);
        due("30: the tape went, refused", x.feed(0, 0, 0, 0, 0), 20);
        due("30: no tape", Check.on(x), false);
        due("30: all stays", x.has(5), 999);
        due("30: refused", x.status(5), none.length + 2);
        due("30: people may change places", Check.on(x, sealed(0, 0, 0, 0, 2, 0, 8, 3, 0, 0, 1, 1, 0, 2, 1, 0)), true);
        due("30: without a square", Check.on(new NoonHat(), sealed(0, 0, 0, 0)), false);
        x = Check.told("square 2 by 2 tower 0 0 high 1;");
        due("30: nobody", Check.on(x, sealed(0, 7, 0, 0)), true);
        due("30: noon 7", x.has(5), 7);
    }

    private static void promise31Status() {
        NoonHat x = new NoonHat();
        x.end(-1);
        x.square();
        x.see();
        x.move(0, 0, 0);
        x.train(0, 0, 0);
        x.train(0, 0, 0);
        x.noons(1);
        x.chance(1);
        x.chance(1);
        x.noons(1);
        for (int k = 0; k < 5; k++) {
            x.undo();
        }
        x.seed(-1);
        x.on();
        x.ask();
        int[] want = {1, 2, 3, 4, 5, 2, -1};
        for (int what = 0; what < want.length; what++) {
            due("31: status(" + what + ")", x.status(what), want[what]);
        }
        due("31: status(-1)", x.status(-1), -1);
        Check.square(x, SMALL);
        due("31: stays", x.status(4), 5);
    }

    private static void terms() {
        due("NONE", NoonHat.NONE, -1);
        due("NOTHING", NoonHat.NOTHING, -1000000000000000L);
        // winds of a height ahead of the beat: 2 in beat 1, then 1; may of the height behind it
        NoonHat x = Check.told("square 5 by 5 tower 2 2 high 2;law a;person p at 2 2 tall 9 pace 0 does a;"
                + "winds height*2-1;may height=0;");
        due("height of winds: 3, then 1", x.toss(0, 0, 2) * 10 + x.toss(0, 0, 3), 31);
        due("height of may: 0", x.toss(0, 0, 1), 2);
        // may is asked of each person and height for himself: p not at 8, q at 0
        x = Check.told("square 9 by 9 tower 4 4 high 9;law a;person p at 4 4 tall 9 pace 0 does a;"
                + "person q at 4 5 tall 0 pace 0 does a;may tall<9;");
        due("q gets it at height 0", x.toss(0, 0, 0) * 10 + x.toss(0, 0, 1), 19);
        // all come back behind a noon
        x = Check.told("square 9 by 9 tower 8 8 high 9;law a;person p at 0 0 tall 9 pace 2 does a;");
        due("got", x.noons(1), 1);
        due("he is back", x.place(0, 0), 0);
        // wore and terms of each in may: p may twice, then q
        x = Check.told("square 3 by 3 tower 1 1 high 1;law a;law b;person p at 0 0 tall 2 pace 0 does a;"
                + "person q at 2 2 tall 1 pace 0 does b;may tall=1 or wore<2;");
        x.noons(5);
        due("p wore", x.person(0, 7), 2);
        due("q wore", x.person(1, 7), 3);
        due("terms of q", x.has(8), 3);
        due("b", x.has(7), 1);
    }

    /** The example of README.md, as it stands there. */
    private static void readme() {
        NoonHat hat = new NoonHat();
        due("20 bytes", hat.feed(0x73717561, 0x72652033, 0x20627920, 0x3320746f, 0x77657220), 20);
        due("40 bytes", hat.feed(0x31203120, 0x68696768, 0x20313b20, 0x20202020, 0x20202020), 40);
        due("the text's bytes", hat.end(31), true);
        due("a statement", hat.square(), 1);
        due("column where it comes down", hat.toss(3, 1, 2), 2);
    }

    public static void main(String[] args) {
        readme();
        promise1NewObject();
        promise2Feed();
        promise3End();
        promise4Square();
        promise5Fault();
        promise6Has();
        promise7Letter();
        promise8Person();
        promise9Place();
        promise10Kept();
        promise11Toss();
        promise12Likely();
        promise13Stand();
        promise14Change();
        promise15Later();
        promise16Lasts();
        promise17Hatless();
        promise18See();
        promise19Wears();
        promise20Asked();
        promise21Move();
        promise22Train();
        promise23Noons();
        promise24Chance();
        promise25Undo();
        promise26Seed();
        promise27Ask();
        promise28Image();
        promise29Octet();
        promise30On();
        promise31Status();
        terms();
        CHECK.end();
    }
}
