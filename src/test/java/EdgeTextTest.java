import java.util.ArrayList;
import java.util.List;

/**
 * Both sides of each boundary that the document's part I names: statements, numbers, names, formulas, faults.
 * A ^ marks the place of the fault that is due; each method is one sentence or two that belong together.
 */
public final class EdgeTextTest {
    private static final Check CHECK = new Check("EdgeTextTest");
    private static final String HEAD = "square 4 by 5 tower 1 2 high 3;";
    private static final String LAW = HEAD + "law a;";
    private static final String ONE = LAW + "person p at 0 0 tall 1 pace 0 does a;";
    private static final List<String> OWN_WORDS = List.of("square", "by", "tower", "high", "law", "person", "at", "tall",
            "pace", "does", "spin", "force", "wall", "winds", "may", "gust", "noon", "height", "wore", "terms", "column",
            "row", "gets", "number", "or", "and", "not", "all", "min", "max");

    private static void due(String what, long got, long want) {
        CHECK.due(what, got, want);
    }

    private static void bad(int fault, String marked) {
        CHECK.bad(fault, marked);
    }

    private static void good(String text) {
        CHECK.good((int) text.chars().filter(c -> c == ';').count(), text);
    }

    private static String many(String part, int n) {
        return Check.many(part, n);
    }

    /** In the place of # the numbers from least to most are told, each other one is fault 2 at it. */
    private static void numbers(String around, int least, int most) {
        for (int n = 0; n <= most + 2; n++) {
            if (n >= least && n <= most) {
                good(around.replace("#", String.valueOf(n)));
                good(around.replace("#", ("000" + n).substring(("000" + n).length() - 4)));
            } else {
                bad(2, around.replace("#", "^" + n));
            }
        }
        bad(2, around.replace("#", "^9999"));
        bad(2, around.replace("#", "^" + (1000 + least)));
        bad(1, around.replace("#", "000" + least + "^0"));
        bad(1, around.replace("#", "^x"));
        bad(1, around.replace("#", "^-1"));
        bad(1, around.replace("#", "^+1"));
    }

    // ---- the statements

    private static void statements() {
        CHECK.sentence("60 at most; a 61st STATEMENT (whatever stands there), at its first byte");
        for (int n = 0; n <= 59; n += n == 2 ? 55 : 1) {
            CHECK.good(n + 1, HEAD + many("gust 1;", n));
        }
        CHECK.good(60, HEAD + many("gust 1;", 59) + " \n ");
        String full = HEAD + many("gust 1;", 59);
        for (String any : new String[] {"gust 1;", "g", "?", ";", "5", "law", "square 2", "gust 101;", "\u00ff", "abcdefg"}) {
            bad(5, full + "^" + any);
            bad(5, full + " \n^" + any + " more");
        }
        String before = HEAD + many("gust 1;", 58);
        bad(1, before + "^?");
        bad(1, before + "gust 1^");
        bad(2, before + "gust ^101;");
        bad(3, HEAD + "law a;" + many("gust 1;", 57) + "law ^a;");
    }

    private static void sides() {
        CHECK.sentence("2 .. 9 columns, 2 .. 9 rows");
        numbers("square # by 5 tower 0 0 high 1;", 2, 9);
        numbers("square 5 by # tower 0 0 high 1;", 2, 9);
        for (int n = 2; n <= 9; n++) {
            NoonHat x = Check.told("square " + n + " by " + (11 - n) + " tower 0 0 high 1;");
            due("columns", x.has(0), n);
            due("rows", x.has(1), 11 - n);
        }
    }

    private static void tower() {
        CHECK.sentence("a column, a row of it from 0 on");
        for (int n = 2; n <= 9; n++) {
            numbers("square " + n + " by 5 tower # 1 high 1;", 0, n - 1);
            numbers("square 5 by " + n + " tower 1 # high 1;", 0, n - 1);
            bad(2, "square " + n + " by " + n + " tower ^" + n + " " + n + " high 1;");
        }
        CHECK.sentence("high N: 1 .. 9");
        numbers("square 5 by 5 tower 4 4 high #;", 1, 9);
        for (int n = 1; n <= 9; n++) {
            due("a hat so high is down in as many beats",
                    Check.told("square 5 by 5 tower 4 4 high " + n + ";").toss(0, 0, 1), n);
        }
    }

    private static void squareFirst() {
        CHECK.sentence("the first STATEMENT, and it alone");
        for (String other : new String[] {"law a;", "wall 0 0;", "winds 1;", "may all;", "gust 1;", "person p at 0 0;", ";"}) {
            bad(1, "^" + other + HEAD);
        }
        good(HEAD);
        bad(1, HEAD + "^" + HEAD);
        bad(1, HEAD + "law a;^" + HEAD);
        CHECK.sentence("one without a STATEMENT has FAULT 1 at its length");
        for (int n = 0; n < 25; n++) {
            bad(1, many(" ", n) + "^");
            bad(1, many("\n", n) + "^");
        }
    }

    private static void howMany() {
        CHECK.sentence("6 LAWS; one too many of a kind, at its first byte");
        for (int n = 0; n <= 6; n++) {
            CHECK.good(n + 1, HEAD + many("law #;", n));
            due("laws", Check.told(HEAD + many("law #;", n)).has(2), n);
        }
        for (String seventh : new String[] {"law g;", "law", "law a;", "law by;", "law 5", "law abcdefg;"}) {
            bad(5, HEAD + many("law #;", 6) + " ^" + seventh);
        }
        CHECK.sentence("6 PEOPLE; one too many of a kind, at its first byte");
        String person = "person #b at @ % tall 1 pace 1 does l;";
        for (int n = 0; n <= 6; n++) {
            CHECK.good(n + 2, HEAD + "law l;" + many(person, n));
            due("people", Check.told(HEAD + "law l;" + many(person, n)).has(3), n);
        }
        for (String seventh : new String[] {"person g at 3 3 tall 1 pace 1 does l;", "person", "person ab", "person 5"}) {
            bad(5, HEAD + "law l;" + many(person, 6) + " ^" + seventh);
        }
        CHECK.sentence("10 WALLS; one too many of a kind, at its first byte");
        String wide = "square 9 by 9 tower 8 8 high 1;";
        for (int n = 0; n <= 10; n++) {
            CHECK.good(n + 1, wide + many("wall @ %;", n));
            due("walls", Check.told(wide + many("wall @ %;", n)).has(4), n);
        }
        for (String eleventh : new String[] {"wall 7 7;", "wall", "wall 0 0;", "wall 9 9;", "wall x"}) {
            bad(5, wide + many("wall @ %;", 10) + " ^" + eleventh);
        }
        CHECK.sentence("winds SUM, may TEST (one each); a second winds, may, too");
        good(HEAD + "winds 1;");
        good(HEAD + "may all;");
        good(HEAD + "may all;winds 1;");
        for (String second : new String[] {"winds 2;", "winds", "winds ?"}) {
            bad(5, HEAD + "winds 1;may all; ^" + second);
        }
        for (String second : new String[] {"may all;", "may", "may ?"}) {
            bad(5, HEAD + "may all;winds 1; ^" + second);
        }
        CHECK.sentence("one too many of a kind: each kind is counted for itself");
        good(wide + many("law #z;", 6) + many("person # at @ % tall 1 pace 1 does az;", 6)
                + many("wall @ %;", 10).replace("wall 0 0", "wall 8 0").replace("wall 1 0", "wall 8 1")
                .replace("wall 2 0", "wall 8 2").replace("wall 3 0", "wall 8 3").replace("wall 0 1", "wall 8 4")
                .replace("wall 1 1", "wall 8 5") + "winds 1;may all;gust 1;gust 2;");
    }

    private static void person() {
        CHECK.sentence("person NAME at N N: a column, a row");
        for (int n = 2; n <= 9; n++) {
            numbers("square " + n + " by 5 tower 1 2 high 1;law a;person p at # 4 tall 1 pace 1 does a;", 0, n - 1);
            numbers("square 5 by " + n + " tower 2 1 high 1;law a;person p at 4 # tall 1 pace 1 does a;", 0, n - 1);
        }
        CHECK.sentence("without a wall, on which no other one stands");
        String rest = " tall 1 pace 1 does a;";
        bad(2, LAW + "wall 3 4;person p at 3 ^4" + rest);
        good(LAW + "wall 3 4;person p at 3 3" + rest);
        good(LAW + "wall 3 4;person p at 2 4" + rest);
        bad(2, ONE + "person q at 0 ^0" + rest);
        good(ONE + "person q at 0 1" + rest);
        good(ONE + "person q at 1 0" + rest);
        good(ONE + "person q at 1 2" + rest);
        CHECK.sentence("tall N: 0 .. 9");
        numbers(LAW + "person p at 0 0 tall # pace 1 does a;", 0, 9);
        CHECK.sentence("pace N: 0 .. 2");
        numbers(LAW + "person p at 0 0 tall 1 pace # does a;", 0, 2);
        CHECK.sentence("spin N force N: 0 .. 8; 0 .. 3");
        numbers(LAW + "person p at 0 0 tall 1 pace 1 does a spin # force 1;", 0, 8);
        numbers(LAW + "person p at 0 0 tall 1 pace 1 does a spin 1 force #;", 0, 3);
        CHECK.sentence("spin N force N: 0, 0 without");
        NoonHat x = Check.told(LAW + "person p at 0 0 tall 9 pace 2 does a spin 8 force 3;"
                + "person q at 1 0 tall 0 pace 0 does a;");
        int[][] people = {{0, 0, 9, 2, 0, 8, 3}, {1, 0, 0, 0, 0, 0, 0}};
        for (int p = 0; p < 2; p++) {
            for (int what = 0; what < 7; what++) {
                due("person(" + p + ", " + what + ")", x.person(p, what), people[p][what]);
            }
        }
        bad(1, LAW + "person p at 0 0 tall 1 pace 1 does a spin 1^;");
        bad(1, LAW + "person p at 0 0 tall 1 pace 1 does a ^force 1;");
    }

    private static void wall() {
        CHECK.sentence("wall N N: a column, a row, not the tower's");
        for (int n = 2; n <= 9; n++) {
            numbers("square " + n + " by 5 tower 1 2 high 1;wall # 4;", 0, n - 1);
            numbers("square 5 by " + n + " tower 2 1 high 1;wall 4 #;", 0, n - 1);
        }
        bad(2, HEAD + "wall 1 ^2;");
        for (String near : new String[] {"0 2", "2 2", "1 1", "1 3", "2 1"}) {
            good(HEAD + "wall " + near + ";");
        }
        CHECK.sentence("on which nobody stands, not told already");
        bad(2, ONE + "wall 0 ^0;");
        good(ONE + "wall 0 1;");
        bad(2, HEAD + "wall 3 3;wall 2 2;wall 3 ^3;");
        good(HEAD + "wall 3 3;wall 2 2;wall 3 2;wall 2 3;");
    }

    private static void gust() {
        CHECK.sentence("gust N (0 .. 100)");
        numbers(HEAD + "gust #;", 0, 100);
        CHECK.sentence("the last one counts, 0 without");
        String[] gusts = {"", "gust 100;gust 0;", "gust 0;gust 100;", "gust 100;gust 7;gust 100;", "gust 100;gust 100;gust 0;"};
        int[] due = {0, 0, 9, 9, 0};
        for (int k = 0; k < gusts.length; k++) {
            due(gusts[k] + " gusts in 3 noons of 3 beats", Check.told(HEAD + gusts[k]).chance(3), due[k]);
        }
        NoonHat x = Check.told(HEAD + "gust 100;");
        Check.square(x, HEAD);
        due("the next square without one", x.chance(3), 0);
    }

    // ---- numbers, names, blanks

    private static void digits() {
        CHECK.sentence("N (1 to 4 digits); where a number is asked, a 5th digit at itself");
        for (String n : new String[] {"0", "9", "00", "99", "000", "999", "0000", "0001", "9999"}) {
            good(HEAD + "winds " + n + ";");
            good(HEAD + "may 1<" + n + ";");
            CHECK.goodAsk(ONE, Integer.parseInt(n), "most " + n);
        }
        for (String n : new String[] {"0000^0", "0000^1", "1000^0", "9999^9", "1234^567890123456789"}) {
            bad(1, HEAD + "winds " + n + ";");
            bad(1, HEAD + "may " + n + "<1;");
            bad(1, HEAD + "gust " + n + ";");
            CHECK.badAsk(ONE, 1, "most " + n);
        }
        CHECK.sentence("where a number is asked, a 5th digit at itself: ahead of a number that can't be");
        bad(1, "square 9999^9 by 2");
        bad(2, "square ^9999 by 2");
    }

    private static void names() {
        CHECK.sentence("NAMES: 1 to 6 letters; where a NAME is asked, a 7th letter at itself");
        for (String name : new String[] {"b", "z", "bc", "bcd", "bcde", "bcdef", "bcdefg", "zzzzzz"}) {
            good(HEAD + "law " + name + ";person c at 0 0 tall 1 pace 1 does " + name + ";");
            good(LAW + "person " + name + " at 0 0 tall 1 pace 1 does a;");
            bad(1, HEAD + "law " + (name + "zzzzzz").substring(0, 6) + "^z;");
            bad(1, LAW + "person " + (name + "zzzzzz").substring(0, 6) + "^z at 0 0 tall 1 pace 1 does a;");
            bad(1, LAW + "person c at 0 0 tall 1 pace 1 does " + (name + "zzzzzz").substring(0, 6) + "^zzz;");
        }
        bad(1, HEAD + "law ^;");
        bad(1, HEAD + "law ^{;");
        bad(1, HEAD + "law ^`;");
        bad(1, HEAD + "law ^Z;");
        CHECK.sentence("where a NAME is asked, an OWN WORD so (fault 1, at its first byte)");
        for (String own : OWN_WORDS) {
            bad(1, HEAD + "law ^" + own + ";");
            bad(1, LAW + "person ^" + own + " at 0 0 tall 1 pace 1 does a;");
            bad(1, LAW + "person p at 0 0 tall 1 pace 1 does ^" + own + ";");
            String shorter = own.substring(0, own.length() - 1);
            String longer = own + "z";
            if (!OWN_WORDS.contains(shorter)) {
                good(HEAD + "law " + shorter + ";");
            }
            if (longer.length() <= 6) {
                good(HEAD + "law " + longer + ";");
            } else {
                bad(1, HEAD + "law " + own + "^z;");
            }
        }
        for (String free : new String[] {"first", "last", "often", "total", "most", "least"}) {
            good(HEAD + "law " + free + ";");
        }
    }

    private static void unlikeNames() {
        CHECK.sentence("unlike ones (of all sorts); a NAME to be given that is there already, at it");
        String person = " at 0 0 tall 1 pace 1 does bb;";
        bad(3, HEAD + "law bb;law ^bb;");
        good(HEAD + "law bb;law b;law bbb;law bc;law ab;");
        good(HEAD + "law bbbbbb;law bbbbbc;law abbbbb;law bbbbb;");
        bad(3, HEAD + "law bb;person ^bb" + person);
        good(HEAD + "law bb;person ba" + person);
        bad(3, HEAD + "law bb;person p" + person + "law ^p;");
        good(HEAD + "law bb;person p" + person + "law q;");
        bad(3, HEAD + "law bb;person p" + person + "person ^p at 1 0 tall 1 pace 1 does bb;");
        good(HEAD + "law bb;person p" + person + "person q at 1 0 tall 1 pace 1 does bb;");
        bad(3, HEAD + many("law #;", 6) + "person ^f at 0 0 tall 1 pace 1 does a;");
        bad(3, HEAD + "law l;" + many("person # at @ % tall 1 pace 1 does l;", 5) + "person ^e at 3 3 tall 1 pace 1 does l;");
        CHECK.sentence("told ahead of where they are asked; one that is none of what is asked, at it");
        bad(3, HEAD + "person p at 0 0 tall 1 pace 1 does ^bb;law bb;");
        good(HEAD + "law bb;person p at 0 0 tall 1 pace 1 does bb;");
        bad(3, HEAD + "law bb;person p at 0 0 tall 1 pace 1 does ^p;");
        bad(3, HEAD + "law bb;person p" + person + "person q at 1 0 tall 1 pace 1 does ^p;");
        bad(3, HEAD + "law bb;person p at 0 0 tall 1 pace 1 does ^b;");
        bad(3, HEAD + "law bb;person p at 0 0 tall 1 pace 1 does ^bbb;");
    }

    private static void blanks() {
        CHECK.sentence("Blanks (10, 32) are where one likes");
        String text = "square~2~by~2~tower~0~0~high~1~;~law~a~;~person~p~at~0~1~tall~1~pace~1~does~a~spin~1~force~1~;~may~"
                + "not~[~1~<~(~tall~)~]~;~winds~min~(~1~,~2~)~+~3~;~";
        good(text.replace("~", " "));
        good(text.replace("~", "\n"));
        good("\n \n" + text.replace("~", " \n "));
        good(text.replaceAll("~([;\\[\\]()<,+])", "$1").replaceAll("([;\\[\\]()<,+])~", "$1").replace("~", " "));
        for (int blank : new int[] {0, 9, 11, 12, 13, 31, 33, 47, 58, 64, 65, 90, 95, 96, 123, 127, 138, 160, 255}) {
            bad(1, "square^" + (char) blank + "2 by 2 tower 0 0 high 1;");
            bad(1, "square 2^" + (char) blank + "by 2 tower 0 0 high 1;");
            bad(1, "square ^" + (char) blank + "2 by 2 tower 0 0 high 1;");
            bad(1, "square 2 ^" + (char) blank + "by 2 tower 0 0 high 1;");
            bad(1, "^" + (char) blank + "square 2 by 2 tower 0 0 high 1;");
            bad(1, HEAD + "^" + (char) blank);
            bad(1, HEAD + "law ^" + (char) blank + ";");
            bad(1, HEAD + "law a^" + (char) blank + ";");
            bad(1, HEAD + "gust 1^" + (char) blank + ";");
        }
        CHECK.sentence("words and numbers side by side need one");
        bad(1, "square^2 by 2 tower 0 0 high 1;");
        bad(1, "square 2^by 2 tower 0 0 high 1;");
        bad(1, "square 2 by 2 tower 0 0^high 1;");
        bad(1, HEAD + "gust^1;");
        bad(1, HEAD + "may tall<pace^1;");
        bad(1, HEAD + "may 1=1^and all;");
        bad(1, HEAD + "winds min^1;");
    }

    // ---- formulas

    /** Each word of the language as a PART: it is one just where the document lists it. */
    private static void parts() {
        CHECK.sentence("PART: N; noon; height; .. in may: tall; pace; wore; terms");
        List<String> words = new ArrayList<>(OWN_WORDS);
        words.addAll(List.of("first", "last", "often", "total", "most", "least", "a", "b"));
        for (String word : words) {
            boolean inWinds = List.of("noon", "height").contains(word);
            boolean inMay = inWinds || List.of("tall", "pace", "wore", "terms").contains(word);
            boolean opens = List.of("min", "max").contains(word);
            String call = opens ? word + "(1,2)" : word;
            if (inWinds || opens) {
                good(HEAD + "winds " + call + ";");
            } else {
                bad(1, HEAD + "winds ^" + call + ";");
            }
            if (inMay || opens) {
                good(HEAD + "may 1<" + call + ";");
                good(HEAD + "may " + call + "=1;");
            } else {
                bad(1, HEAD + "may 1<^" + call + ";");
            }
        }
        CHECK.sentence("PART: number; column; row; tall; pace; wore; terms; noon; force; gets; spin PART; ( SUM ) ; min ; max");
        for (String word : words) {
            boolean is = List.of("number", "column", "row", "tall", "pace", "wore", "terms", "noon", "force", "gets")
                    .contains(word);
            String call = List.of("min", "max").contains(word) ? word + "(1,1)" : word.equals("spin") ? "spin 0" : "";
            if (is || !call.isEmpty()) {
                due("fault of total " + word, faultOfAsk("total " + (is ? word : call)), 0);
                due("fault of first " + word, faultOfAsk("first 1=" + (is ? word : call)), 0);
            } else {
                CHECK.badAsk(ONE, 1, "total ^" + word);
                CHECK.badAsk(ONE, 1, "first 1=^" + word);
            }
        }
    }

    private static void fact(String what, String test, boolean holds) {
        due("may " + what + test, Check.told("square 2 by 2 tower 0 0 high 1;law a;person p at 1 1 tall 9 pace 1 does a;may "
                + test + ";").toss(0, 0, 0), holds ? 0 : -1);
        due("first " + test, Check.ask(Check.told("square 2 by 2 tower 0 0 high 1;law a;person p at 1 1 tall 9 pace 1 does a;"),
                "first " + test), holds ? 0 : -1);
    }

    private static void sum(String sum, int value) {
        due("most " + sum, Check.ask(Check.told(ONE), "most " + sum), value);
        due("least " + sum, Check.ask(Check.told(ONE), "least " + sum), value);
        fact("", sum + "=" + (value < 0 ? "0-" + (-value) / 1000 + "*1000-" + (-value) % 1000
                : value / 1000 + "*1000+" + value % 1000), true);
    }

    private static void signs() {
        CHECK.sentence("FACT: SUM SIGN SUM, SIGN < or > or =");
        for (int a = 3; a <= 5; a++) {
            fact("", a + "<4", a < 4);
            fact("", a + ">4", a > 4);
            fact("", a + "=4", a == 4);
        }
        CHECK.sentence("TEST: BOTH { or BOTH }. BOTH: FACT { and FACT }");
        String[] facts = {"1=2", "1=1"};
        for (int k = 0; k < 8; k++) {
            boolean a = (k & 1) != 0;
            boolean b = (k & 2) != 0;
            boolean c = (k & 4) != 0;
            fact("", facts[k & 1] + " or " + facts[k >> 1 & 1], a || b);
            fact("", facts[k & 1] + " and " + facts[k >> 1 & 1], a && b);
            fact("", facts[k & 1] + " or " + facts[k >> 1 & 1] + " and " + facts[k >> 2], a || b && c);
            fact("", facts[k & 1] + " and " + facts[k >> 1 & 1] + " or " + facts[k >> 2], a && b || c);
            fact("", "not " + facts[k & 1] + " and " + facts[k >> 1 & 1] + " and " + facts[k >> 2], !a && b && c);
            fact("", "not " + facts[k & 1] + " or " + facts[k >> 1 & 1], !a || b);
            fact("", "not [" + facts[k & 1] + " or " + facts[k >> 1 & 1] + "] and " + facts[k >> 2], !(a || b) && c);
        }
        fact("", "all", true);
        fact("", "not all", false);
        String[][] kinds = {{"1<2", "2<1"}, {"2>1", "1>2"}, {"1=1", "1=2"}, {"all", "not all"}, {"not 2<1", "not 1<2"},
            {"[2>1]", "[1>2]"}};
        for (String[] a : kinds) {
            for (String[] b : kinds) {
                for (int k = 0; k < 4; k++) {
                    fact("", a[k & 1] + " and " + b[k >> 1], k == 0);
                    fact("", a[k & 1] + " or " + b[k >> 1], k != 3);
                }
            }
        }
    }

    private static void sums() {
        CHECK.sentence("All from the left on");
        sum("20-5-3", 12);
        sum("20-5+3", 18);
        sum("100/5/2", 10);
        sum("100/5*2", 40);
        sum("7*3/2", 10);
        sum("7/2*3", 9);
        sum("2+3*4", 14);
        sum("2*3+4*5", 26);
        sum("(2+3)*4", 20);
        CHECK.sentence("/ gives the greatest whole number not above");
        sum("7/7", 1);
        sum("6/7", 0);
        sum("8/7", 1);
        sum("(0-1)/7", -1);
        sum("(0-7)/7", -1);
        sum("(0-8)/7", -2);
        sum("1/(0-7)", -1);
        sum("0/(0-7)", 0);
        sum("8/(0-7)", -2);
        sum("(0-8)/(0-7)", 1);
        sum("(0-6)/(0-7)", 0);
        CHECK.sentence("by 0 it gives 0");
        sum("7/0", 0);
        sum("0/0", 0);
        sum("(0-7)/0", 0);
        sum("7/(1-1)+1", 1);
        sum("7/1", 7);
        CHECK.sentence("min ( SUM , SUM ) ; max ( SUM , SUM )");
        sum("min(2,3)", 2);
        sum("min(3,2)", 2);
        sum("min(3,3)", 3);
        sum("max(2,3)", 3);
        sum("max(3,2)", 3);
        sum("max(0-2,0-3)", -2);
        sum("min(0-2,0-3)", -3);
    }

    private static void held() {
        CHECK.sentence("each sum, difference, product above 10 to the 6 is that, below -10 to the 6 likewise");
        sum("999*1001", 999999);
        sum("1000*1000", 1000000);
        sum("1000*1000+0", 1000000);
        sum("1000*1000+1", 1000000);
        sum("1000*1000+1-1", 999999);
        sum("999*1001+1", 1000000);
        sum("999*1001+2", 1000000);
        sum("999*1001+2-2", 999998);
        sum("1001*1000-1", 999999);
        sum("9999*9999*9999*9999", 1000000);
        sum("0-1000*1000", -1000000);
        sum("0-1000*1000-1", -1000000);
        sum("0-1000*1000-1+1", -999999);
        sum("0-999*1001-1", -1000000);
        sum("0-999*1001-2+2", -999998);
        sum("(0-9999)*9999", -1000000);
        sum("(0-1000)*1001+1", -999999);
        sum("(0-9999)*9999*9999", -1000000);
        sum("(0-9999)*9999*(0-9999)*9999", 1000000);
        sum("1000*1000-(0-1)", 1000000);
        sum("1000*1000/(0-1)", -1000000);
        sum("(1000*1000+1000*1000)/2", 500000);
    }

    // ---- faults

    private static void wholeWords() {
        CHECK.sentence("1 the first byte with which no such text goes on (words and numbers whole, at their first byte)");
        for (String word : new String[] {"squar", "squares", "squarex", "s", "Square"}) {
            bad(1, " ^" + word + " 2 by 2");
        }
        bad(1, "square 2 ^bye 2");
        bad(1, "square 2 ^b 2");
        bad(1, "square 2 ^22");
        bad(1, HEAD + "^laws a;");
        bad(1, HEAD + "^la a;");
        bad(1, HEAD + "winds ^noo;");
        bad(1, HEAD + "winds ^noons;");
        bad(1, HEAD + "winds ^heights;");
        bad(1, HEAD + "may ^nota;");
        bad(1, HEAD + "may all ^andall;");
        bad(1, HEAD + "may all ^12;");
        CHECK.sentence("1 .. at the text's length, if it ends too soon");
        for (String text : new String[] {"square", "square 2", "square 2 by 2 tower 0 0 high 1", HEAD + "law", HEAD + "law a",
            LAW + "person p at 0 0 tall 1 pace 1 does a", LAW + "person p at 0 0 tall 1 pace 1 does a spin", HEAD + "wall 0",
            HEAD + "winds", HEAD + "winds 1+", HEAD + "winds (1", HEAD + "may 1", HEAD + "may 1<", HEAD + "may [all",
            HEAD + "may all", HEAD + "may all or", HEAD + "gust", HEAD + "gust 1"}) {
            bad(1, text + "^");
            bad(1, text + " \n ^");
        }
        good(HEAD + " \n ");
    }

    private static final String[] STATEMENTS = {"square 4 by 5 tower 1 2 high 3", "law b",
        "person p at 0 0 tall 1 pace 1 does a spin 1 force 1", "wall 3 3", "gust 5",
        "winds 1 + noon * 2 - ( 3 ) / min ( 4 , 5 )",
        "winds max ( 1 , 2 )", "may 1 < 2 and not all or [ tall > 3 ]", "may not [ not pace = 1 ]"};

    /** Behind a text that ends too soon all goes on well: it is refused at what stands there all the same. */
    private static void goesOnBehind() {
        CHECK.sentence("1 the first byte with which no such text goes on: whatever stands behind it");
        for (String statement : STATEMENTS) {
            String[] words = statement.split(" ");
            String text = statement.startsWith("square") ? "" : LAW;
            for (int k = 0; k < words.length; k++) {
                boolean whole = endsWell(statement, words, k);
                if (k > 0 && whole) {
                    good(text + ";law zz;");
                } else if (k > 0) {
                    bad(1, text + "^;law zz;");
                }
                if (k > 0 && !statement.startsWith("law")) {
                    bad(1, text + "^law zz;");
                }
                text += words[k] + " ";
            }
            good(text + ";law zz;");
            bad(1, text + "^law zz;");
        }
    }

    /** Whether the first words of a statement are one as well. */
    private static boolean endsWell(String statement, String[] words, int many) {
        if (many == 0) {
            return false;
        }
        String last = words[many - 1];
        if (statement.startsWith("person")) {
            return many == 11;
        }
        if (statement.startsWith("winds 1")) {
            return many == 2 || many == 4 || many == 6 || last.equals(")");
        }
        if (statement.startsWith("may 1")) {
            return many == 4 || last.equals("all");
        }
        return false;
    }

    private static void rowsInstead() {
        CHECK.sentence("2 .. of a place that can't be the row, if its column is in the SQUARE");
        for (String head : new String[] {"square 4 by 5 tower ", LAW + "person p at ", HEAD + "wall "}) {
            bad(2, head + "^4 0");
            bad(2, head + "^4 5");
            bad(2, head + "3 ^5");
            bad(2, head + "0 ^9999");
            bad(2, head + "^4");
            bad(1, head + "3^");
            bad(1, head + "3 ^x");
            bad(2, head + "^4 x");
        }
        bad(2, HEAD + "wall 1 ^2;");
        bad(2, HEAD + "wall ^9 2;");
    }

    /** Six that are open stand, the seventh is fault 4 at it, whatever mix of them it is. */
    private static void openAtOnce() {
        CHECK.sentence("4 the 7th of ( [ not that is open at once, at it");
        for (int sums = 0; sums <= 6; sums++) {
            for (int mix = 0; mix < 1 << (6 - sums); mix++) {
                String open = "";
                String close = sums == 0 ? "all" : "1" + ")".repeat(sums) + "=1";
                for (int k = 0; k < 6 - sums; k++) {
                    boolean not = (mix >> k & 1) != 0;
                    open += not ? "not " : "[";
                    close += not ? "" : "]";
                }
                open += "(".repeat(sums);
                good(HEAD + "may " + open + close + ";");
                due("fault of first " + open + close, faultOfAsk("first " + open + close), 0);
                for (String seventh : sums > 0 ? new String[] {"("} : new String[] {"(", "[", "not "}) {
                    bad(4, HEAD + "may " + open + "^" + seventh + "1");
                    CHECK.badAsk(ONE, 4, "first " + open + "^" + seventh + "1");
                }
            }
        }
        String five = "(((((";
        good(HEAD + "winds " + five + "min(1,2)" + ")))));");
        bad(4, HEAD + "winds (" + five + "min ^(1,2)");
        good(HEAD + "winds " + five + "max(1,2)" + ")))));");
        bad(4, HEAD + "winds (" + five + "max ^(1,2)");
        good(HEAD + "winds max(1,max(1,max(1,max(1,max(1,max(1,2))))));");
        bad(4, HEAD + "winds max(1,max(1,max(1,max(1,max(1,max(1,min^(");
    }

    private static int faultOfAsk(String text) {
        NoonHat x = Check.told(ONE);
        Check.ask(x, text);
        return x.fault(0);
    }

    private static void openNoMore() {
        CHECK.sentence("open at once (not until its FACT ends)");
        good(HEAD + "may " + many("not all and ", 20) + "not all;");
        good(HEAD + "may " + many("[all] or ", 20) + "[all];");
        good(HEAD + "winds " + many("(1)+min(1,2)*", 20) + "(1);");
        good(HEAD + "may not [not [not not all] and [not not not all]] and not [not [not not all]];");
        bad(4, HEAD + "may not [not [not not all] and [not not not ^not all]");
        good(HEAD + "may not not not not not not all and not not not not not not all;");
        bad(4, HEAD + "may not not not not not not all and not not not not not not ^not all;");
        good(HEAD + "may not not not not not (1)=1 and (1)=1;");
        good(HEAD + "may not not not not not (1)=(1);");
        bad(4, HEAD + "may not not not not not not 1=^(1)");
        bad(4, HEAD + "may not not not not not (1)=(^(1))");
        good(HEAD + "may [not [not [not 1=1 and 1=1 or 1=1] or (((1)))=1] and ((((1))))=1];");
        good(HEAD + "may [not [not [not 1=1 and (1)=1]]];");
        NoonHat x = Check.told(ONE);
        for (int k = 0; k < 5; k++) {
            Check.square(x, HEAD + "may " + "[".repeat(k) + "((((((1");
            due("behind one that is refused", Check.square(x, HEAD + "may [[[[[[all]]]]]];"), 2);
            Check.ask(x, "total " + "(".repeat(k) + "1");
            due("behind a question with a fault", Check.ask(x, "total ((((((1))))))") == 0 && x.fault(0) == 0 ? 1 : 0, 1);
        }
        bad(4, HEAD + "may [not [not [not ^((1)");
    }

    private static void firstAlong() {
        CHECK.sentence("FAULTS, the first along the text");
        bad(2, HEAD + "wall ^9 9;law a;law a;?");
        bad(3, LAW + "law ^a;wall 9 9;");
        bad(4, HEAD + "winds ((((((^((1;wall 9 9;");
        bad(5, HEAD + "may all;^may ((((((((1;wall 9 9;");
        bad(1, HEAD + "^?wall 9 9;");
        bad(2, LAW + "person p at 0 0 tall ^10 pace 3 does b spin 9 force 9;");
        bad(2, LAW + "person p at 0 0 tall 9 pace ^3 does b spin 9 force 9;");
        bad(3, LAW + "person p at 0 0 tall 9 pace 2 does ^b spin 9 force 9;");
        bad(2, LAW + "person p at 0 0 tall 9 pace 2 does a spin ^9 force 9;");
        bad(3, LAW + "person ^a at 9 9 tall 10");
    }

    public static void main(String[] args) {
        statements();
        sides();
        tower();
        squareFirst();
        howMany();
        person();
        wall();
        gust();
        digits();
        names();
        unlikeNames();
        blanks();
        parts();
        signs();
        sums();
        held();
        wholeWords();
        goesOnBehind();
        rowsInstead();
        openAtOnce();
        openNoMore();
        firstAlong();
        CHECK.end();
    }
}
