import java.util.function.IntBinaryOperator;

/** The sentences on two CURVES (promises 19 to 29) that name a boundary: a test for each. */
public final class MeetEdgesTest extends Answers {
    /** Modulo 2 its FORM is 1 at all seven POINTS. */
    private static final String NOWHERE = "field 2;curve a=x^4+x^2*y^2+y^4+x*y+x+y+1;";
    private static final String PARABOLA = "curve a=y-x^2;curve b=y*(y-1);curve c=(y-x^2)*x;curve d=y-3;";

    /** Neither the first nor the second CURVE can be one that is not there. */
    private static void noSuchTwo(String call, int count, IntBinaryOperator ask) {
        noSuchCurve(call + ", first", count, c -> ask.applyAsInt(c, 0), NONE);
        noSuchCurve(call + ", second", count, c -> ask.applyAsInt(0, c), NONE);
        noSuchCurve(call + ", both", count, c -> ask.applyAsInt(c, c), NONE);
    }

    private static String rules(CurveMeets x, int a, int b, int point) {
        StringBuilder text = new StringBuilder();
        for (int k = 0; k < 400 && x.rule(a, b, point, k) != NONE; k++) {
            text.append(x.rule(a, b, point, k));
        }
        return text.toString();
    }

    // ---- common parts

    private static void commonDegrees() {
        CurveMeets x = with("curve a=(x+y)^2*(x-1);curve b=(x+y)*(x^2+y);curve c=y;curve d=3*(x+y)^2;curve e=x^4+y;");
        due("none", x.common(0, 2), 0);
        due("none of two like TERMS", x.common(2, 4), 0);
        due("1", x.common(0, 1), 1);
        due("2", x.common(0, 3), 2);
        due("2 the other way", x.common(3, 0), 2);
    }

    private static void commonIsGreatest() {
        CurveMeets x = with("curve a=x^2*y;curve b=x*y^2;curve c=3*(x+y)^2;curve d=2*(x+y)^3;curve e=(x+y)*x*y^2;"
            + "curve f=y^2-x^3;");
        due("x y", x.common(0, 1) * 10 + x.commonTerm(0, 1, 1, 1), 21);
        due("no more of it", x.commonTerm(0, 1, 2, 0) + x.commonTerm(0, 1, 0, 2) + x.commonTerm(0, 1, 0, 0), 0);
        due("a square and a third power", x.common(2, 3) * 10 + x.commonTerm(2, 3, 1, 1), 22);
        due("one of two", x.common(2, 4) * 10 + x.commonTerm(2, 4, 0, 1), 11);
        due("two of three", x.common(4, 1), 3);
        due("none, though both are 0 at a POINT", x.common(5, 0), 0);
        CurveMeets four = with("curve a=y^4;curve b=y^4+1;curve c=x^4;curve d=x^4+y;");
        due("none, by y^8", four.common(0, 1) * 10 + four.common(1, 0), 0);
        due("none, by x^8", four.common(2, 3) * 10 + four.common(3, 2), 0);
        // Modulo 3 y^3 - x^3 is (y - x)^3, x^2 + y^2 can't be divided.
        CurveMeets y = with("field 3;curve a=y^3-x^3;curve b=(y-x)^2;curve c=(x^2+y^2)*(x+1);curve d=(x^2+y^2)*(x+2);");
        due("two of three, modulo 3", y.common(0, 1) * 10 + y.commonTerm(0, 1, 1, 1), 21);
        due("one that can't be divided", y.common(2, 3) * 10 + y.commonTerm(2, 3, 0, 2), 21);
    }

    private static void commonWithItself() {
        CurveMeets x = with("curve a=x;curve b=x^2*y^2;curve c=3*y^3+x;");
        due("a line", x.common(0, 0), 1);
        due("a quartic", x.common(1, 1), 4);
        due("a cubic", x.common(2, 2), 3);
    }

    private static void firstTermHasOne() {
        CurveMeets x = with("curve a=3*x*y+2*y^2+x+4;curve b=2*y^2+3*x;curve c=3*x+2*y;"
            + "curve d=5*y^4+2*x^4+x;curve e=6*y;");
        // By 3: its inverse is 5.
        due("a, x*y", x.commonTerm(0, 0, 1, 1), 1);
        due("a, y^2", x.commonTerm(0, 0, 0, 2), 3);
        due("a, x", x.commonTerm(0, 0, 1, 0), 5);
        due("a, 1", x.commonTerm(0, 0, 0, 0), 6);
        // By 2: its inverse is 4.
        due("b, y^2", x.commonTerm(1, 1, 0, 2), 1);
        due("b, x", x.commonTerm(1, 1, 1, 0), 5);
        due("c, x", x.commonTerm(2, 2, 1, 0), 1);
        due("c, y", x.commonTerm(2, 2, 0, 1), 3);
        due("d, x^4", x.commonTerm(3, 3, 4, 0), 1);
        due("d, y^4", x.commonTerm(3, 3, 0, 4), 6);
        due("e, y", x.commonTerm(4, 4, 0, 1), 1);
        due("none: 1", x.commonTerm(0, 1, 0, 0), 1);
        due("none: x", x.commonTerm(0, 1, 1, 0), 0);
    }

    private static void commonOfNone() {
        CurveMeets x = with("curve a=x;curve b=y;");
        noSuchTwo("common", 2, x::common);
        noSuchTwo("common", 0, new CurveMeets()::common);
    }

    private static void commonTermsInBounds() {
        CurveMeets x = with("curve a=2*(x+y+1)^4;curve b=x;");
        int[] factorials = {1, 1, 2, 6, 24};
        for (int i = -2; i <= 6; i++) {
            for (int j = -2; j <= 6; j++) {
                boolean fits = i >= 0 && j >= 0 && i + j <= 4;
                int want = fits ? 24 / factorials[i] / factorials[j] / factorials[4 - i - j] % 7 : NONE;
                due("TERM " + i + " " + j, x.commonTerm(0, 0, i, j), want);
            }
        }
        due("both great", x.commonTerm(0, 0, GREATEST, GREATEST), NONE);
        due("one great", x.commonTerm(0, 0, GREATEST, 1), NONE);
        due("both least", x.commonTerm(0, 0, LEAST, LEAST), NONE);
        due("great and least", x.commonTerm(0, 0, GREATEST, LEAST), NONE);
        noSuchTwo("commonTerm", 2, (a, b) -> x.commonTerm(a, b, 0, 0));
    }

    // ---- times

    private static void timesOfNotOn() {
        CurveMeets x = with("curve a=y;curve b=x;");
        due("not ON the second", x.times(0, 1, 7), 0);
        due("not ON the first", x.times(0, 1, 1), 0);
        due("ON none", x.times(0, 1, 8), 0);
        due("ON none, far", x.times(0, 1, 50), 0);
        due("ON both", x.times(0, 1, 0), 1);
        due("one CURVE, not ON it", x.times(0, 0, 1), 0);
    }

    private static void timesToSixteen() {
        CurveMeets x = with("curve a=y-x^4;curve b=y-x^4+y^4;curve c=y-x^4-1;curve d=y^4;curve e=x^4;");
        due("near", x.times(0, 1, 0), 16);
        due("the other way", x.times(1, 0, 0), 16);
        due("far", x.times(0, 2, 56), 16);
        due("four lines and four", x.times(3, 4, 0), 16);
        due("a line four times", x.times(0, 3, 0), 16);
    }

    private static void timesWithoutBound() {
        CurveMeets x = with("curve a=y*x;curve b=y*(x-1);curve c=x^2+y^2+x;curve d=(x^2+y^2+x)*(x-2);");
        due("on what they share", x.times(0, 1, 21), -2);
        due("far, on what they share", x.times(0, 1, 49), -2);
        due("where one more goes through", x.times(0, 1, 0), -2);
        due("elsewhere", x.times(0, 1, 56), 1);
        due("elsewhere, ON one", x.times(0, 1, 1), 0);
        due("one CURVE", x.times(0, 0, 0), -2);
        due("one conic", x.times(2, 3, 0), -2);
        // x x + y y is 0 at no POINT at infinity modulo 7: there the FORM is not 0.
        due("conic, far", x.times(2, 3, 49), 0);
        due("conic, at the last", x.times(2, 3, 56), 0);
    }

    private static void timesOfNone() {
        CurveMeets x = with("curve a=x;curve b=y;");
        noSuchTwo("times", 2, (a, b) -> x.times(a, b, 0));
        noSuchPoint("times", 7, q -> x.times(0, 1, q));
        noSuchPoint("times of one", 7, q -> x.times(0, 0, q));
    }

    // ---- rules

    private static void ruleEnd() {
        CurveMeets x = with("curve a=y;curve b=y-1;curve c=x;");
        alike("F has none", rules(x, 0, 1, 0), "0");
        alike("G has none", rules(x, 1, 0, 0), "0");
        alike("both have one", rules(x, 1, 1, 0), "0");
        due("0 more", x.times(0, 1, 0), 0);
        alike("far", rules(x, 0, 2, 50), "0");
    }

    private static void ruleSplit() {
        CurveMeets x = with("curve a=y;curve b=x^2+x^3+y;curve c=x^3+y;curve d=y^2;");
        alike("at once", rules(x, 0, 1, 0), "10");
        due("by the least i", x.times(0, 1, 0), 2);
        due("by the least i, 3", x.times(0, 2, 0), 3);
        alike("twice", rules(x, 3, 1, 0), "110");
        due("twice as much", x.times(3, 1, 0), 4);
    }

    private static void splitAgain() {
        CurveMeets x = with("curve a=y^4;curve b=x+y;curve c=x^2*y+y^3;curve d=x^3;curve e=y^3*x;");
        alike("four times", rules(x, 0, 1, 0), "11110");
        due("by 1 each time", x.times(0, 1, 0), 4);
        // v (u u + v v), u^3: SPLIT by 3; a CUT leaves - u v v; SWAP; two SPLITS by 2; - u cuts u u + v v to
        // v v; SWAP; two SPLITS by 1.
        alike("once, and later twice and twice", rules(x, 2, 3, 0), "1321132110");
        due("all in all", x.times(2, 3, 0), 9);
        // v^3 u and u + v: three SPLITS by 1, then u and u + v.
        alike("three times", rules(x, 4, 1, 0), "1113210");
        due("three and one", x.times(4, 1, 0), 4);
    }

    private static void ruleSwap() {
        CurveMeets x = with("curve a=x;curve b=y;curve c=x^2+y;curve d=x+y;");
        alike("G has none", rules(x, 0, 1, 0), "210");
        alike("F's is like G's", rules(x, 3, 0, 0), "3210");
        // u u + v, u: SWAP; a CUT leaves v; SWAP; SPLIT by 1; END.
        alike("F's is above G's", rules(x, 2, 0, 0), "23210");
        alike("F's is below G's", rules(x, 0, 2, 0), "3210");
    }

    private static void ruleCut() {
        CurveMeets x = with("curve a=x+y;curve b=x;curve c=2*x+y;curve d=3*x^3+x^2+y;");
        alike("both alike", rules(x, 0, 1, 0), "3210");
        // 2 u + v, 3 u^3 + u^2 + v: a CUT takes u^3, the next one u^2; then none without v is left.
        due("each CUT takes the greatest one", x.rule(2, 3, 0, 0) * 100 + x.rule(2, 3, 0, 1) * 10 + x.rule(2, 3, 0, 2),
            332);
        due("two CUTS", x.rules(2, 3, 0, 3), 2);
        due("TIMES", x.times(2, 3, 0), 1);
    }

    private static void firstRuleThatFits() {
        CurveMeets x = with("curve a=y;curve b=x*y-1;curve c=x*y+x^2;curve d=x^3+x+y;");
        alike("END ahead of SPLIT", rules(x, 0, 1, 0), "0");
        alike("END ahead of SWAP", rules(x, 2, 1, 0), "0");
        alike("SPLIT ahead of CUT", rules(x, 0, 2, 0), "10");
        alike("SWAP ahead of CUT", rules(x, 3, 2, 0).substring(0, 1), "2");
    }

    /** Reckoned apart from the program: with 15 or 17 for 16 there would be other numbers of SWAPS and CUTS. */
    private static void termsAboveSixteen() {
        CurveMeets x = with("field 3;curve a=x^3;curve b=y^4+x*y+2*x^2+x^3*y+x^4;");
        due("TIMES", x.times(0, 1, 0), 12);
        int[] often = {1, 10, 21, 35};
        for (int kind = 0; kind < 4; kind++) {
            due("RULE " + kind, x.rules(0, 1, 0, kind), often[kind]);
        }
        CurveMeets y = with("field 3;curve a=2*x^4;curve b=y^3+x+x*y^3+2*x^3*y+2*x^4;");
        due("TIMES", y.times(0, 1, 0), 12);
        int[] oftenThen = {1, 12, 24, 29};
        for (int kind = 0; kind < 4; kind++) {
            due("RULE " + kind, y.rules(0, 1, 0, kind), oftenThen[kind]);
        }
    }

    private static void rulesByKind() {
        CurveMeets x = with("curve a=y^2-x^3;curve b=y;curve c=y-1;");
        // u^3, v: SWAP, SPLIT by 3, END.
        int[] often = {1, 1, 1, 0};
        for (int kind = 0; kind < 4; kind++) {
            due("RULE " + kind, x.rules(0, 1, 0, kind), often[kind]);
            due("not ON one, RULE " + kind, x.rules(0, 2, 0, kind), kind == 0 ? 1 : 0);
        }
    }

    private static void rulesOfNone() {
        CurveMeets x = with("curve a=y^2-x^3;curve b=y;");
        noneForOthers("rules", 4, kind -> x.rules(0, 1, 0, kind));
        for (int kind = 0; kind < 4; kind++) {
            due("without bound", x.rules(0, 0, 0, kind), NONE);
            int asked = kind;
            noSuchTwo("rules", 2, (a, b) -> x.rules(a, b, 0, asked));
            noSuchPoint("rules", 7, q -> x.rules(0, 1, q, asked));
        }
    }

    private static void ruleByRule() {
        CurveMeets x = with("curve a=y-x;curve b=y^2-x^3;curve c=y-1;");
        items("to its END", k -> x.rule(0, 1, 0, k), 3, 2, 1, 2, 3, 2, 1, 0);
        due("k NONE", x.rule(0, 1, 0, NONE), NONE);
        items("END alone", k -> x.rule(0, 2, 0, k), 0);
        items("a shorter one behind a longer one", k -> x.rule(2, 2, 0, k), 0);
    }

    private static void ruleOfNone() {
        CurveMeets x = with("curve a=y-x;curve b=y^2-x^3;");
        x.times(0, 1, 0);
        due("without bound", x.rule(0, 0, 0, 0), NONE);
        noSuchTwo("rule", 2, (a, b) -> x.rule(a, b, 0, 0));
        noSuchPoint("rule", 7, q -> x.rule(0, 1, q, 0));
    }

    // ---- size

    private static void sizeBelowSeventeen() {
        CurveMeets x = with("curve a=y;curve b=y^2;curve c=x^4;curve d=y^4;curve e=y-x^4;curve f=y-x^4+y^4;");
        due("a line shared", x.size(0, 0, 0), 17);
        due("a line and twice it", x.size(0, 1, 0), 17);
        due("a line twice", x.size(1, 1, 0), 17 + 16);
        due("a line four times", x.size(3, 3, 0), 17 + 16 + 15 + 14);
        due("four lines and four", x.size(2, 3, 0), 16);
        due("sixteen", x.size(4, 5, 0), 16);
        due("far, shared", x.size(0, 0, 49), 17);
        due("not ON one", x.size(0, 2, 1), 0);
        due("ON none", x.size(0, 2, 8), 0);
        due("a CURVE by itself, not ON it", x.size(0, 0, 1), 0);
    }

    private static void sizeOfMultiples() {
        CurveMeets x = with("curve a=x*y;curve b=x^2;curve c=y^3;curve d=x*y^2;curve e=x^3*y;curve f=y^2;");
        // Left are 1, u and all powers of v up to 16.
        due("u v, u u", x.size(0, 1, 0), 1 + 1 + 16);
        due("u v alone", x.size(0, 0, 0), 1 + 16 + 16);
        // v v (v, u): what v v leaves, and v v itself.
        due("v^3, u v v", x.size(2, 3, 0), 17 + 16 + 1);
        due("u v v, u^3 v", x.size(3, 4, 0), 17 + 16 + 2);
        due("u u, v^3", x.size(1, 2, 0), 6);
        due("the other way", x.size(2, 1, 0), 6);
        due("v v, v^3", x.size(5, 2, 0), 17 + 16);
    }

    private static void sizeAsTimes() {
        for (int p : PRIMES) {
            CurveMeets x = with("field " + p + ";curve a=y^2-x^3;curve b=y-x^2;curve c=x^2*y-y+x^4;");
            for (int q : new int[] {0, p * p, p * p + p}) {
                due("a, b at " + q, x.size(0, 1, q), x.times(0, 1, q));
                due("b, c at " + q, x.size(1, 2, q), x.times(1, 2, q));
                due("c, a at " + q, x.size(2, 0, q), x.times(2, 0, q));
            }
        }
    }

    private static void sizeOfNone() {
        CurveMeets x = with("curve a=x;curve b=y;");
        noSuchTwo("size", 2, (a, b) -> x.size(a, b, 0));
        noSuchPoint("size", 7, q -> x.size(0, 1, q));
    }

    // ---- meetings

    private static void meetings() {
        CurveMeets x = with(PARABOLA);
        list("POINTS", k -> x.meet(0, 1, k, 0), 0, 8, 43);
        items("TIMES", k -> k == NONE ? NONE : x.meet(0, 1, k, 1), 2, 1, 1);
        list("none", k -> x.meet(0, 3, k, 0));
        list("all of one", k -> x.meet(3, 3, k, 0), 3, 10, 17, 24, 31, 38, 45, 49);
    }

    private static void allTimesTogether() {
        CurveMeets x = with(PARABOLA);
        due("four", x.meet(0, 1, NONE, 1), 4);
        due("none", x.meet(0, 3, NONE, 1), 0);
        due("sixteen", with("curve a=x^4;curve b=y^4;").meet(0, 1, NONE, 1), 16);
    }

    private static void meetWithoutBound() {
        CurveMeets x = with("curve a=y*(y-1);curve b=y*x^2-x^2;curve c=y-1;");
        due("the first is not", x.meet(0, 1, 0, 1), 2);
        due("the second is", x.meet(0, 1, 1, 1), -2);
        due("the last is", x.meet(0, 1, 7, 1), -2);
        due("all together", x.meet(0, 1, NONE, 1), -2);
        due("how many", x.meet(0, 1, NONE, 0), 9);
        due("one CURVE", x.meet(2, 2, NONE, 1), -2);
        due("one CURVE without POINTS", with(NOWHERE).meet(0, 0, NONE, 1), 0);
    }

    private static void meetOfNone() {
        CurveMeets x = with(PARABOLA);
        for (int k = -1; k < 2; k++) {
            int asked = k;
            noneForOthers("meet", 2, what -> x.meet(0, 1, asked, what));
            noSuchTwo("meet", 4, (a, b) -> x.meet(a, b, asked, 0));
            noSuchTwo("meet, TIMES", 4, (a, b) -> x.meet(a, b, asked, 1));
        }
    }

    // ---- parts and totals

    private static void partsByDegree() {
        CurveMeets x = with("curve a=y-x^2;curve b=x*y-1;curve c=x^4+y^4-1;curve d=x*y^3+x;curve e=x;curve f=x*y;");
        int[] conics = {1, 3, 4, 4, 4, 4};
        int[] quartics = {1, 3, 6, 10, 13, 15, 16, 16, 16};
        for (int d = 0; d < conics.length; d++) {
            due("two conics, " + d, x.parts(0, 1, d), conics[d]);
        }
        for (int d = 0; d < quartics.length; d++) {
            due("two quartics, " + d, x.parts(2, 3, d), quartics[d]);
        }
        for (int d : new int[] {0, 1, 2, 23, 24}) {
            due("a line shared, " + d, x.parts(4, 5, d), d + 1);
            due("a line by itself, " + d, x.parts(4, 4, d), d + 1);
        }
        due("two conics, 24", x.parts(0, 1, 24), 4);
        due("two quartics, 24", x.parts(2, 3, 24), 16);
        due("a quartic by itself, 4", x.parts(2, 2, 4), 14);
        due("a quartic by itself, 24", x.parts(2, 2, 24), 325 - 231);
    }

    private static void partsOfMultiples() {
        CurveMeets x = with("curve a=x*y;curve b=x*(y-1);curve c=x^2*(y-1);curve d=y^3;");
        for (int d = 0; d <= 24; d++) {
            // A line shared leaves d + 1, one POINT more where y and y - z meet.
            due("conics with a line, " + d, x.parts(0, 1, d), d == 0 ? 1 : d + 2);
            due("one within the other, " + d, x.parts(1, 2, d), 2 * d + 1);
            due("y shared, " + d, x.parts(0, 3, d), d == 0 ? 1 : d == 1 ? 3 : d + 3);
        }
    }

    private static void partsOfNone() {
        CurveMeets x = with("curve a=x;curve b=y;");
        due("0", x.parts(0, 1, 0), 1);
        due("24", x.parts(0, 1, 24), 1);
        for (int d : new int[] {-1, -2, 25, 26, GREATEST, LEAST}) {
            due("d " + d, x.parts(0, 1, d), NONE);
        }
        noSuchTwo("parts", 2, (a, b) -> x.parts(a, b, 0));
    }

    private static final String[] PAIRS = {
        "curve a=x;curve b=y;",
        "curve a=x;curve b=x-1;",
        "curve a=y;curve b=y-1;",
        "curve a=y*(x-6);curve b=(y-1)*(y-6);",
        "curve a=y-x^4;curve b=y-x^4-1;",
        // y = - x^4, so x^16 + x = 0: x = 0, or x^3 = -1, that is 3, 5, 6.
        "curve a=x^4+y;curve b=y^4+x;",
        "curve a=x^4;curve b=y^4;",
        "curve a=y-x^2;curve b=x-1;",
        // No x by itself is 3 modulo 7: they meet near, but at no POINT.
        "curve a=x^2-3;curve b=y;",
        // At 1 : 0 : 0 u is v^4, and u^4 goes: z is v there, so that z to the 15 stays and z to the 16 goes.
        "curve a=x^3*y-1;curve b=y^4;",
        "curve a=x*y^3-1;curve b=x*y^3+x^4-1;",
        // The same at 1 : 1 : 0, where no power of x or y goes: there less than z to the 16 would be seen.
        "curve a=(y-x)^4;curve b=x^3*(y-x)-1;"};

    /** One total of each pair, either way. */
    private static void totals(int what, int... want) {
        for (int k = 0; k < PAIRS.length; k++) {
            CurveMeets x = with(PAIRS[k]);
            due("total " + what + " of " + PAIRS[k], x.total(0, 1, what), want[k]);
            due("the other way", x.total(1, 0, what), want[k]);
        }
    }

    private static void productsOfDegrees() {
        totals(0, 1, 1, 1, 4, 16, 16, 16, 2, 2, 16, 16, 16);
    }

    private static void near() {
        totals(1, 1, 0, 0, 2, 0, 16, 16, 1, 2, 0, 0, 0);
    }

    private static void far() {
        totals(2, 0, 1, 1, 2, 16, 0, 0, 1, 0, 16, 16, 16);
    }

    private static void timesNearAndFar() {
        totals(3, 1, 0, 0, 2, 0, 4, 16, 1, 0, 0, 0, 0);
        totals(4, 0, 1, 1, 2, 16, 0, 0, 1, 0, 16, 16, 16);
    }

    private static void totalOfShared() {
        CurveMeets x = with("curve a=y*x;curve b=y*(x-1);curve c=(x^2+y^2)*y;curve d=x^2+y^2;curve e=x-1;");
        for (int what = 0; what < 5; what++) {
            due("a line shared", x.total(0, 1, what), NONE);
            due("a conic shared", x.total(2, 3, what), NONE);
            due("one CURVE", x.total(0, 0, what), NONE);
        }
        due("none shared", x.total(0, 4, 0), 2);
    }

    private static void totalOfNone() {
        CurveMeets x = with("curve a=x;curve b=y;");
        noneForOthers("total", 5, what -> x.total(0, 1, what));
        for (int what = 0; what < 5; what++) {
            int asked = what;
            noSuchTwo("total", 2, (a, b) -> x.total(a, b, asked));
        }
    }

    // ---- knots and the greatest

    private static void knots() {
        CurveMeets x = with("curve a=x;curve b=y;curve c=x+y;curve d=x-y;curve e=x+2*y;curve f=x+3*y;");
        due("all six", x.knot(0, 0), 6);
        due("15 couples", x.knot(0, 1), 15);
        due("one", x.knot(1, 0), 1);
        due("no couple", x.knot(1, 1), 0);
        due("the last", x.knot(56, 0), 1);
        CurveMeets y = with("curve a=y-x^2;curve b=y;curve c=y-1;");
        due("none", y.knot(2, 0), 0);
        due("none together", y.knot(2, 1), 0);
        due("TIMES, not couples", y.knot(0, 1), 2);
        CurveMeets none = new CurveMeets();
        due("without CURVES", none.knot(56, 0), 0);
        due("without CURVES", none.knot(56, 1), 0);
    }

    private static void knotWithoutBound() {
        CurveMeets x = with("curve a=x;curve b=y;curve c=y*(x-1);");
        due("one couple of three", x.knot(0, 1), -2);
        due("not there", x.knot(1, 1), 0);
        due("two, not shared there", x.knot(56, 1), 1);
        due("how many all the same", x.knot(0, 0), 3);
        due("one alone is no couple", with("curve a=x;").knot(0, 1), 0);
        due("two like ones are a couple", with("curve a=x;curve b=x;").knot(0, 1), -2);
    }

    private static void knotOfNone() {
        CurveMeets x = with("curve a=x;curve b=y;");
        noneForOthers("knot", 2, what -> x.knot(0, what));
        noSuchPoint("knot", 7, q -> x.knot(q, 0));
        noSuchPoint("knot, TIMES", 7, q -> x.knot(q, 1));
        noSuchPoint("knot without CURVES", 7, q -> new CurveMeets().knot(q, 0));
    }

    private static void mostAnywhere() {
        CurveMeets x = with("curve a=y-x^4;curve b=y-x^4-1;curve c=y-x^4+y^4;curve d=(y-1)*y;curve e=x-1;");
        due("far", x.most(0, 1, 0) * 100 + x.most(0, 1, 1), 1656);
        due("near", x.most(0, 2, 0) * 100 + x.most(0, 2, 1), 1600);
        due("not the first", x.most(0, 3, 0) * 100 + x.most(0, 3, 1), 400);
        due("the other way", x.most(3, 0, 0) * 100 + x.most(3, 0, 1), 400);
        due("three far", x.most(0, 4, 0) * 100 + x.most(0, 4, 1), 356);
    }

    private static void mostWithoutAny() {
        CurveMeets x = with(PARABOLA);
        due("greatest", x.most(0, 3, 0), 0);
        due("where", x.most(0, 3, 1), NONE);
        CurveMeets y = with(NOWHERE);
        due("one CURVE without POINTS", y.most(0, 0, 0), 0);
        due("where", y.most(0, 0, 1), NONE);
    }

    private static void mostWithoutBound() {
        CurveMeets x = with("curve a=y*(y-1);curve b=y*x^2-x^2;curve c=x-6;");
        due("greatest", x.most(0, 1, 0), -2);
        due("not the first POINT, where TIMES are 2", x.most(0, 1, 1), 1);
        due("one CURVE", x.most(2, 2, 0), -2);
        due("its first POINT", x.most(2, 2, 1), 42);
    }

    private static void firstOfTheGreatest() {
        CurveMeets x = with("curve a=x*(x-1);curve b=y*(y-1);curve c=y-x^2;curve d=y-2*x+1;curve e=(y-2*x+1)*(x-2);"
            + "curve f=(x-2)*(x-3);");
        due("all alike", x.most(0, 1, 0), 1);
        due("the first", x.most(0, 1, 1), 0);
        due("at (1, 1)", x.most(2, 3, 0) * 100 + x.most(2, 3, 1), 208);
        due("others behind it", x.most(2, 4, 0) * 100 + x.most(2, 4, 1), 208);
        due("far", x.most(0, 5, 0) * 100 + x.most(0, 5, 1), 456);
    }

    private static void mostOfNone() {
        CurveMeets x = with("curve a=x;curve b=y;");
        noneForOthers("most", 2, what -> x.most(0, 1, what));
        noSuchTwo("most", 2, (a, b) -> x.most(a, b, 0));
        noSuchTwo("most, where", 2, (a, b) -> x.most(a, b, 1));
    }

    private static void sentencesOnTerms() {
        sentence("II", "the POLYNOMIAL of greatest DEGREE by which both can be divided",
            MeetEdgesTest::commonIsGreatest);
        sentence("II", "of its TERMS that with the greatest i and j, of like ones with the greatest i, has 1",
            MeetEdgesTest::firstTermHasOne);
        sentence("II", "none (-2), if the FORM of their COMMON PART is 0 there", MeetEdgesTest::timesWithoutBound);
        sentence("II", "0 END: F or G has a TERM without u and v: 0 more, it is over.", MeetEdgesTest::ruleEnd);
        sentence("II", "1 SPLIT: F has no TERM without v: F is divided by v", MeetEdgesTest::splitAgain);
        sentence("II", "TIMES are more by the least i of G's TERMS without v.", MeetEdgesTest::ruleSplit);
        sentence("II", "2 SWAP: G has no TERM without v, or F's greatest i of TERMS without v is above G's: G, F.",
            MeetEdgesTest::ruleSwap);
        sentence("II", "so that G's greatest one without v goes.", MeetEdgesTest::ruleCut);
        sentence("II", "(The first that fits: 0, 1, 2, 3.)", MeetEdgesTest::firstRuleThatFits);
        sentence("II", "(TERMS above 16 by i and j together are left out at any time)",
            MeetEdgesTest::termsAboveSixteen);
        sentence("II", "by how much all POLYNOMIALS in u, v below 17 (i and j together) are more",
            MeetEdgesTest::sizeBelowSeventeen);
        sentence("II", "than those among them that are made by LOCAL ones, each times any POLYNOMIAL, TERMS of 17 and "
            + "more left out (as dimensions)", MeetEdgesTest::sizeOfMultiples);
        sentence("II", "PARTS of d (0 .. 24)", MeetEdgesTest::partsByDegree);
        sentence("II", "by how much all FORMS of DEGREE d in x, y, z are more than those that are made by the FORMS of "
            + "both CURVES, each times any FORM (as dimensions)", MeetEdgesTest::partsOfMultiples);
        sentence("II", "NEAR: by how much those that are made by FORMS of DEGREE 8 times z to the 16 and by both "
            + "CURVES are more than those made by both CURVES alone (of DEGREE 24).", MeetEdgesTest::near);
        sentence("II", "FAR: the product of both DEGREES less NEAR.", MeetEdgesTest::far);
    }

    private static void sentencesOnTimes() {
        sentence("Promise 19", "its DEGREE (0: none)", MeetEdgesTest::commonDegrees);
        sentence("Promise 19", "(they may be one, as everywhere)", MeetEdgesTest::commonWithItself);
        sentence("Promise 19", "NONE when there is none such", MeetEdgesTest::commonOfNone);
        sentence("Promise 20", "NONE as of term().", MeetEdgesTest::commonTermsInBounds);
        sentence("Promise 21", "(0: one is not ON one)", MeetEdgesTest::timesOfNotOn);
        sentence("Promise 21", "TIMES of two CURVES at a POINT", MeetEdgesTest::timesToSixteen);
        sentence("Promise 21", "-2 without bound; NONE when there is none such.", MeetEdgesTest::timesOfNone);
        sentence("Promise 22", "By its RULES: how often each (kind 0 .. 3)", MeetEdgesTest::rulesByKind);
        sentence("Promise 22", "NONE when TIMES are without bound, when there is none such, or no such kind.",
            MeetEdgesTest::rulesOfNone);
        sentence("Promise 23", "The k-th RULE (from 0 on): its kind", MeetEdgesTest::ruleByRule);
        sentence("Promise 23", "NONE likewise.", MeetEdgesTest::ruleOfNone);
        sentence("Promise 24", "SIZE of two CURVES at a POINT", MeetEdgesTest::sizeAsTimes);
        sentence("Promise 24", "NONE when there is none such.", MeetEdgesTest::sizeOfNone);
    }

    private static void sentencesOnMeetings() {
        sentence("Promise 25", "The k-th POINT ON two CURVES, by numbers (what 0), its TIMES (1; -2 without bound)",
            MeetEdgesTest::meetings);
        sentence("Promise 25", "k NONE: how many (what 0), all TIMES together", MeetEdgesTest::allTimesTogether);
        sentence("Promise 25", "-2 if one is without bound", MeetEdgesTest::meetWithoutBound);
        sentence("Promise 25", "NONE when there is none such, or for others.", MeetEdgesTest::meetOfNone);
        sentence("Promise 26", "NONE when there is none such, or d can't be.", MeetEdgesTest::partsOfNone);
        sentence("Promise 27", "What 0: the product of both DEGREES, 1 NEAR, 2 FAR",
            MeetEdgesTest::productsOfDegrees);
        sentence("Promise 27", "3 TIMES together of POINTS ON both that are not at infinity, 4 of those at infinity.",
            MeetEdgesTest::timesNearAndFar);
        sentence("Promise 27", "NONE when both have a COMMON PART of DEGREE 1 or more", MeetEdgesTest::totalOfShared);
        sentence("Promise 27", "when there is none such, or for others.", MeetEdgesTest::totalOfNone);
        sentence("Promise 28", "How many of CURVES meet at a POINT (are ON it; what 0); TIMES of all couples of unlike "
            + "of these together", MeetEdgesTest::knots);
        sentence("Promise 28", "(1; -2 if one is without bound)", MeetEdgesTest::knotWithoutBound);
        sentence("Promise 28", "NONE when there is no such POINT, or for others.", MeetEdgesTest::knotOfNone);
        sentence("Promise 29", "The greatest TIMES of two CURVES at any POINT", MeetEdgesTest::mostAnywhere);
        sentence("Promise 29", "0 without any", MeetEdgesTest::mostWithoutAny);
        sentence("Promise 29", "-2 if one is without bound), the first POINT of these",
            MeetEdgesTest::mostWithoutBound);
        sentence("Promise 29", "the first POINT of these (1; NONE without any)", MeetEdgesTest::firstOfTheGreatest);
        sentence("Promise 29", "NONE when there is none such, or for others.", MeetEdgesTest::mostOfNone);
    }

    public static void main(String[] args) {
        sentencesOnTerms();
        sentencesOnTimes();
        sentencesOnMeetings();
        close();
    }
}
