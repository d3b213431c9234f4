/** The faults of squares and questions; a ^ marks the place that is due and is not in the text. */
public final class FaultTest {
    private static final Check CHECK = new Check("FaultTest");
    private static final String HEAD = "square 4 by 5 tower 1 2 high 3;";

    private static final String[] OWN_WORDS = ("square by tower high law person at tall pace does spin force wall winds "
            + "may gust noon height wore terms column row gets number or and not all min max").split(" ");
    private static final String[] WORDS = (String.join(" ", OWN_WORDS) + " first last often total most least x").split(" ");

    private static final String ONE = HEAD + "law l; person p at 0 0 tall 1 pace 1 does l;";

    private static String many(String part, int n) {
        return Check.many(part, n);
    }

    private static void bad(int fault, String marked) {
        CHECK.bad(fault, marked);
    }

    private static void good(int statements, String text) {
        CHECK.good(statements, text);
    }

    private static void badAsk(int fault, String marked) {
        CHECK.badAsk(ONE, fault, marked);
    }

    private static void goodAsk(long answer, String text) {
        CHECK.goodAsk(ONE, answer, text);
    }

    private static void squares() {
        bad(1, "^");
        bad(1, "  \n ^");
        bad(1, "^;");
        bad(1, "^squar");
        bad(1, "^squares 2 by 2");
        bad(1, "^Square 2 by 2");
        bad(1, "square^");
        bad(1, "square ^by");
        bad(1, "square^2 by 2");
        bad(1, "square 2^by 2");
        bad(1, "square 2 ^b 2");
        bad(1, "square 2 by 2 tower 0 0 high 1^");
        bad(1, "square 2 by 2 tower 0 0 high 1 \n^");
        bad(1, "square 2 by 2 tower 0 0 high 1 ^, law a;");
        bad(1, "square 0002^0 by");
        bad(1, "^\tsquare 2 by 2");
        bad(2, "square ^1 by 2");
        bad(2, "square ^10 by 2");
        bad(2, "square 9 by ^1 tower");
        bad(2, "square 2 by 3 tower ^2 0 high 1;");
        bad(2, "square 2 by 3 tower 1 ^3 high 1;");
        bad(2, "square 2 by 3 tower 1 2 high ^0;");
        bad(2, "square 2 by 3 tower 1 2 high ^10;");
        good(1, "square 2 by 9 tower 1 8 high 9;");
        good(1, "\n square\n0002 by 9 tower 01 8 high 9 ; \n");
        bad(1, HEAD + "^square 2 by 2 tower 0 0 high 1;");
        bad(1, HEAD + "^;");
        bad(1, HEAD + "^5;");
        bad(1, HEAD + "^first;");
        bad(1, "^law a; " + HEAD);
        bad(1, HEAD + "^\u00e9");
    }

    private static void names() {
        good(2, HEAD + "law abcdef;");
        bad(1, HEAD + "law abcdef^g;");
        bad(1, HEAD + "law square^x;");
        bad(1, HEAD + "law ^1;");
        bad(1, HEAD + "law a^1;");
        bad(1, HEAD + "law ^A;");
        bad(1, HEAD + "law a^B;");
        bad(1, HEAD + "law^;");
        for (String own : OWN_WORDS) {
            bad(1, HEAD + "law ^" + own + ";");
            bad(1, HEAD + "law a; person ^" + own + " at 0 0;");
            bad(1, HEAD + "law a; person b at 0 0 tall 1 pace 1 does ^" + own + ";");
            good(2, HEAD + "law " + own.charAt(0) + "z;");
        }
        for (String free : "first last often total most least be x".split(" ")) {
            good(3, HEAD + "law " + free + ";person z at 0 0 tall 0 pace 0 does " + free + ";");
        }
        bad(3, HEAD + "law a; law ^a;");
        bad(3, HEAD + "law a; person ^a at 0 0 tall 1 pace 1 does a;");
        bad(3, HEAD + "law a; person b at 0 0 tall 1 pace 1 does a; law ^b;");
        bad(3, HEAD + "law a; person b at 0 0 tall 1 pace 1 does a; person ^b at 1 0 tall 1 pace 1 does a;");
        bad(3, HEAD + "law a; person b at 0 0 tall 1 pace 1 does ^b;");
        bad(3, HEAD + "person b at 0 0 tall 1 pace 1 does ^a; law a;");
        bad(1, HEAD + "law a; person b at 0 0 tall 1 pace 1 does abcdef^g;");
        good(3, HEAD + "law ab; law a;");
        good(3, HEAD + "law a; law aa;");
    }

    private static void people() {
        String law = HEAD + "law a;";
        good(3, law + "person p at 3 4 tall 9 pace 2 does a spin 8 force 3;");
        good(3, law + "person p at 1 2 tall 0 pace 0 does a;");
        bad(2, law + "person p at ^4 0 tall 1 pace 0 does a;");
        bad(2, law + "person p at 3 ^5 tall 1 pace 0 does a;");
        bad(2, law + "person p at 0 0 tall ^10 pace 0 does a;");
        bad(2, law + "person p at 0 0 tall 9 pace ^3 does a;");
        bad(2, law + "person p at 0 0 tall 9 pace 0 does a spin ^9 force 0;");
        bad(2, law + "person p at 0 0 tall 9 pace 0 does a spin 8 force ^4;");
        bad(1, law + "person p at 0 0 tall 9 pace 0 does a spin 8^;");
        bad(1, law + "person p at 0 0 tall 9 pace 0 does a ^force 3;");
        bad(1, law + "person p at 0 0 tall 9 pace 0 does a spin 8 force 3 ^spin 1 force 1;");
        bad(1, law + "person p at 0 0 ^pace 0 tall 9 does a;");
        bad(1, law + "person p at 0^, 0 tall 9 pace 0 does a;");
        bad(2, law + "person p at 0 0 tall 1 pace 0 does a; person q at 0 ^0 tall 1 pace 0 does a;");
        bad(2, law + "wall 0 1; person q at 0 ^1 tall 1 pace 0 does a;");
        bad(2, law + "wall 0 1; person q at ^9 1 tall 1 pace 0 does a;");
    }

    private static void others() {
        good(2, HEAD + "wall 0 0;");
        bad(2, HEAD + "wall 1 ^2;");
        bad(2, HEAD + "wall 0 0; wall 0 ^0;");
        bad(2, HEAD + "wall ^4 9;");
        bad(2, HEAD + "wall 3 ^5;");
        bad(2, HEAD + "law a; person p at 0 3 tall 1 pace 0 does a; wall 0 ^3;");
        good(4, HEAD + "gust 100; gust 0; gust 0050;");
        bad(2, HEAD + "gust ^101;");
        bad(1, HEAD + "gust 0010^0;");
        bad(1, HEAD + "gust^");
        good(3, HEAD + "winds 1; may all;");
        bad(5, HEAD + "winds 1; ^winds 2;");
        bad(5, HEAD + "may all; ^may");
        bad(5, HEAD + many("law #;", 6) + "^law");
        good(7, HEAD + many("law #;", 6));
        String people = HEAD + "law l;" + many("person #p at @ % tall 1 pace 1 does l;", 6);
        good(8, people);
        bad(5, people + "^person zz at 9 9;");
        String walls = "square 9 by 9 tower 8 8 high 1;" + many("wall @ %;", 10);
        good(11, walls);
        bad(5, walls + " ^wall 8 8;");
        good(60, HEAD + many("gust 1;", 59));
        good(60, HEAD + many("gust 1;", 59) + " \n");
        bad(5, HEAD + many("gust 1;", 59) + " ^gust 1;");
        bad(5, HEAD + many("gust 1;", 59) + "\n^?");
        bad(5, HEAD + many("gust 1;", 59) + "^zzz");
        bad(1, HEAD + many("gust 1;", 58) + "^zzz");
    }

    private static void formulas() {
        good(2, HEAD + "winds noon+height*2-min(1,(3))/max(noon,1);");
        good(2, HEAD + "may tall<pace and wore>terms or not[noon=height or all]and all;");
        for (String word : WORDS) {
            if (!" noon height min max ".contains(" " + word + " ")) {
                bad(1, HEAD + "winds 1+^" + word + ";");
            }
            if (!" noon height min max tall pace wore terms ".contains(" " + word + " ")) {
                bad(1, HEAD + "may 1<^" + word + ";");
            }
            if (!" noon min max tall pace wore terms column row number gets force spin ".contains(" " + word + " ")) {
                badAsk(1, "total 1*^" + word);
            }
        }
        bad(1, HEAD + "winds min ^;");
        bad(1, HEAD + "may 1<max ^;");
        bad(1, HEAD + "winds 1 ^< 2;");
        bad(1, HEAD + "winds ^[all];");
        bad(1, HEAD + "winds ^-1;");
        bad(1, HEAD + "winds 1234^5;");
        bad(1, HEAD + "winds 1^noon;");
        bad(1, HEAD + "winds noon^1;");
        bad(1, HEAD + "winds 1 ^2;");
        bad(1, HEAD + "winds min(1^);");
        bad(1, HEAD + "winds min(1,2^,3);");
        bad(1, HEAD + "winds (1^;");
        bad(1, HEAD + "winds (1+^)");
        bad(1, HEAD + "may 1^;");
        bad(1, HEAD + "may all ^all;");
        bad(1, HEAD + "may not^;");
        bad(1, HEAD + "may [all^);");
        bad(1, HEAD + "may 1<2^and all;");
        bad(1, HEAD + "may 1<2 ^=2;");
        bad(1, HEAD + "may all or^");
        bad(1, HEAD + "may (^[");
        good(2, HEAD + "winds ((((((1))))));");
        bad(4, HEAD + "winds ((((((^(1");
        good(2, HEAD + "winds ((((((1)))))+(1));");
        bad(4, HEAD + "winds ((((((1)))+(((^(1");
        bad(4, HEAD + "winds min(1,max(1,((((min ^(1");
        good(2, HEAD + "may not not not not not not all and not not not not not not all;");
        bad(4, HEAD + "may not not not not not not ^not all;");
        bad(4, HEAD + "may not[not[not[^not");
        bad(4, HEAD + "may not [ not [ not [ ^( 1");
        bad(4, HEAD + "may not [ not [ not 1 < ( 1 ) + ( ^(");
        good(2, HEAD + "may not [ not [ not 1 < ( 1 ) + ( 1 ) ] ] ;");
        good(2, HEAD + "may [[[[[[all]]]]]];");
        bad(4, HEAD + "may [[[[[[^[");
    }

    private static void questions() {
        badAsk(1, "^");
        badAsk(1, " ^");
        badAsk(1, "^firs all");
        badAsk(1, "^all");
        badAsk(1, "^5");
        badAsk(1, "first^");
        badAsk(1, "first 1^");
        badAsk(1, "first all ^;");
        badAsk(1, "first all ^all");
        badAsk(1, "total ^all");
        badAsk(1, "total 1 ^< 2");
        badAsk(1, "total ^height");
        badAsk(1, "total ^does");
        badAsk(1, "total ^x");
        badAsk(1, "total 1 ^x");
        badAsk(1, "total spin^");
        badAsk(1, "total spin^3");
        badAsk(1, "total spin ^+");
        badAsk(1, "total 1234^5");
        badAsk(1, "first ^first");
        goodAsk(1, "total spin 0");
        // his way is 0: spin 0 is 1, so spin spin 0 is 0, and so on
        goodAsk(0, "total spin spin spin spin spin spin 0");
        badAsk(4, "total spin spin spin spin spin spin ^spin 0");
        badAsk(4, "total spin(spin(spin(^spin 0");
        badAsk(4, "total spin(spin(spin(^(0");
        goodAsk(3, "total spin(spin 5)+spin spin(spin(spin 5)+1)+1*spin(5)+spin 0");
        goodAsk(0, "first not not not not not not all");
        badAsk(4, "first not not not not not not ^not all");
        badAsk(4, "first not not not not not [ ^not all");
        badAsk(4, "first not not not not not [ 1 = ^spin");
        goodAsk(0, "first\nnot[not[all]]and 1=1 or all");
        goodAsk(797, "total 1" + many("+1", 796));
        goodAsk(-2, "total 1" + many("-min(1,1)", 3));
        // six open, and at each something waits to be joined
        goodAsk(0, "first all or not all and 1+2*min(1,1+2*min(1,1+2*min(1,1+2*min(1,1+2*min(1,1+2*3)))))=3 and 1<2");
    }

    public static void main(String[] args) {
        squares();
        names();
        people();
        others();
        formulas();
        questions();
        CHECK.end();
    }
}
