/** The sentences on POINTS and single CURVES (promises 6 to 18) that name a boundary: a test for each. */
public final class CurveEdgesTest extends Answers {
    /** Modulo 2 its FORM is 1 at all seven POINTS. */
    private static final String NOWHERE = "field 2;curve a=x^4+x^2*y^2+y^4+x*y+x+y+1;";
    /** Modulo 3 four lines through (0, 0), that have all thirteen POINTS. */
    private static final String EVERYWHERE = "field 3;curve a=x*y*(x+y)*(x-y);";

    // ---- points

    private static void pointNumbers() {
        for (int p : PRIMES) {
            CurveMeets x = with("field " + p + ";curve a=x;curve b=y;");
            for (int q : new int[] {0, 1, p - 1, p, p + 1, p * p - p, p * p - 1}) {
                due("x of " + q, x.value(0, q), q / p);
                due("y of " + q, x.value(1, q), q % p);
            }
            for (int m : new int[] {0, 1, p - 1}) {
                due("x of 1 : " + m + " : 0", x.value(0, p * p + m), 1);
                due("y of 1 : " + m + " : 0", x.value(1, p * p + m), m);
            }
            due("x of 0 : 1 : 0", x.value(0, p * p + p), 0);
            due("y of 0 : 1 : 0", x.value(1, p * p + p), 1);
            due("no more", x.value(0, p * p + p + 1), NONE);
            due("none below", x.value(0, -1), NONE);
        }
    }

    private static void formsAtInfinity() {
        CurveMeets x = with("curve a=x^2+3*x*y+2*y+1;curve b=5*y-4;curve c=2*x^4+3*y^4+x^3+6;");
        for (int m = 0; m < 7; m++) {
            due("conic at " + m, x.value(0, 49 + m), (1 + 3 * m) % 7);
            due("line at " + m, x.value(1, 49 + m), 5 * m % 7);
            due("quartic at " + m, x.value(2, 49 + m), (2 + 3 * m * m * m * m) % 7);
        }
        due("conic at the last", x.value(0, 56), 0);
        due("line at the last", x.value(1, 56), 5);
        due("quartic at the last", x.value(2, 56), 3);
        due("near all TERMS count", x.value(0, 2 * 7 + 3), (4 + 18 + 6 + 1) % 7);
    }

    private static void valuesAtTheEdges() {
        for (int p : PRIMES) {
            int less = p - 1;
            CurveMeets x = with("field " + p + ";curve a=-x^4-x^2*y^2-y^4-x^3-y^3-1;"
                + "curve b=" + less + "*x^3+" + less + "*y;");
            due("at 0, 0", x.value(0, 0), less);
            due("at the last that is near", x.value(0, p * p - 1), Math.floorMod(-2, p));
            due("at 1 : 0 : 0", x.value(0, p * p), less);
            due("at 1 : P less 1 : 0", x.value(0, p * p + less), Math.floorMod(-3, p));
            due("at 0 : 1 : 0", x.value(0, p * p + p), less);
            due("at the last that is near, b", x.value(1, p * p - 1), 2 % p);
            due("at 1 : P less 1 : 0, b", x.value(1, p * p + less), less);
            due("at 0 : 1 : 0, b", x.value(1, p * p + p), 0);
        }
    }

    private static void pointsOn() {
        CurveMeets x = with("field 3;curve a=y-x^2;curve b=x^2+1;");
        list("parabola", k -> x.point(0, k), 0, 4, 7, 12);
        list("its POINT far", k -> x.point(1, k), 12);
    }

    // ---- local ones

    private static void localNearAndFar() {
        CurveMeets x = with("curve a=x^2*y+3*y-1;");
        // At (6, 6): (u + 6)(u + 6)(v + 6) + 3 (v + 6) - 1 = (u u - 2 u + 1)(v - 1) + 3 v - 4.
        int[][] near = {{0, 0, 2}, {1, 0, 2}, {2, 0, 6}, {0, 1, 4}, {1, 1, 5}, {2, 1, 1}, {0, 2, 0}, {3, 0, 0}};
        for (int[] term : near) {
            due("near " + term[0] + " " + term[1], x.local(0, 48, term[0], term[1]), term[2]);
        }
        // The FORM x x y + 3 y z z - z z z at 1 : 6 : 0: (u + 6) + 3 (u + 6) v v - v v v.
        int[][] far = {{0, 0, 6}, {1, 0, 1}, {0, 2, 4}, {1, 2, 3}, {0, 3, 6}, {0, 1, 0}, {2, 0, 0}, {2, 1, 0}};
        for (int[] term : far) {
            due("far " + term[0] + " " + term[1], x.local(0, 55, term[0], term[1]), term[2]);
        }
        // At 0 : 1 : 0: u u + 3 v v - v v v.
        int[][] last = {{0, 0, 0}, {2, 0, 1}, {0, 2, 3}, {0, 3, 6}, {1, 0, 0}, {0, 1, 0}, {3, 0, 0}};
        for (int[] term : last) {
            due("last " + term[0] + " " + term[1], x.local(0, 56, term[0], term[1]), term[2]);
        }
    }

    private static void orders() {
        CurveMeets x = with("curve a=x+1;curve b=x+y;curve c=y^2-x^3;curve d=y^3-x^4;curve e=x*y*(x-y)*(x+y);"
            + "curve f=x*(x-1)*(x-2)*(x-3);");
        for (int k = 0; k < 5; k++) {
            due("ORDER " + k, x.order(k, 0), k);
        }
        due("upright lines at (3, 0)", x.order(5, 21), 1);
        due("upright lines at (4, 0)", x.order(5, 28), 0);
        due("upright lines at 1 : 6 : 0", x.order(5, 55), 0);
        due("upright lines at 0 : 1 : 0", x.order(5, 56), 4);
        due("cusp far", with("curve a=y-x^3;").order(0, 56), 2);
    }

    // ---- ways

    private static void waysToTheLast() {
        for (int p : PRIMES) {
            CurveMeets x = with("field " + p + ";curve a=x*y*(x+y);curve b=y-" + (p - 1) + "*x+x^2;curve c=x-y^2;");
            list("three lines", k -> x.tangent(0, 0, k, 0), 0, p - 1, p);
            list("the last but one", k -> x.tangent(1, 0, k, 0), p - 1);
            list("like 0 and 1", k -> x.tangent(2, 0, k, 0), p);
        }
    }

    private static void waysAsOften() {
        CurveMeets x = with("curve a=(x-y)^4;curve b=x^4;curve c=y^4;curve d=(y-2*x)^2*(y+x)*x;curve e=y^3-x^4;"
            + "curve f=(x^2+y^2)*y^2;");
        items("four times 1", k -> x.tangent(0, 0, k, 1), 4);
        items("four times P", k -> x.tangent(1, 0, k, 1), 4);
        items("four times 0", k -> x.tangent(2, 0, k, 1), 4);
        items("the least first", k -> x.tangent(3, 0, k, 0), 2, 6, 7);
        items("as often", k -> x.tangent(3, 0, k, 1), 2, 1, 1);
        due("TERMS above the lowest don't count", x.tangent(4, 0, NONE, 1), 3);
        due("less often than ORDER", x.tangent(5, 0, NONE, 1), 2);
    }

    private static void waysByDivision() {
        // v (u^3 + v^3): modulo 7 the third powers of 3, 5 and 6 are 6; modulo 3 it is v (u + v)^3.
        CurveMeets x = with("curve a=x^3*y+y^4;");
        items("by four", k -> x.tangent(0, 0, k, 0), 0, 3, 5, 6);
        items("each once", k -> x.tangent(0, 0, k, 1), 1, 1, 1, 1);
        CurveMeets y = with("field 3;curve a=x^3*y+y^4;curve b=x^2*(x-y)+y^4;curve c=(y-2*x)^2*x-1;");
        items("by two", k -> y.tangent(0, 0, k, 0), 0, 2);
        items("once and three times", k -> y.tangent(0, 0, k, 1), 1, 3);
        items("1 and P", k -> y.tangent(1, 0, k, 0), 1, 3);
        items("P twice", k -> y.tangent(1, 0, k, 1), 1, 2);
        // At 1 : 2 : 0 its LOCAL one is u u - v v v, at 0 : 1 : 0 it begins with u.
        items("P alone, far", k -> y.tangent(2, 11, k, 0), 3);
        items("twice, far", k -> y.tangent(2, 11, k, 1), 2);
        items("P alone, at the last", k -> y.tangent(2, 12, k, 0), 3);
        items("once, at the last", k -> y.tangent(2, 12, k, 1), 1);
    }

    private static void waysByNumber() {
        for (int p : PRIMES) {
            CurveMeets x = with("field " + p + ";curve a=x^2*y*(y-x)+y^4-y^3*x;");
            // v u u (v - u) + v v v (v - u) = v (v - u) (u u + v v): the last is 0 where 1 + w w is.
            int last = -1;
            int together = 0;
            int ways = x.tangent(0, 0, NONE, 0);
            for (int k = 0; k < ways; k++) {
                int way = x.tangent(0, 0, k, 0);
                int often = (way == 0 ? 1 : 0) + (way == 1 ? 1 : 0);
                often += (1 + way * way) % p == 0 ? (p == 2 ? 2 : 1) : 0;
                due("the least first", way > last, true);
                due("how often " + way, x.tangent(0, 0, k, 1), often);
                last = way;
                together += often;
            }
            due("all together", x.tangent(0, 0, NONE, 1), together);
            due("as many as can be", together, p % 4 == 3 ? 2 : 4);
            due("the first", x.tangent(0, 0, 0, 0), 0);
            due("the second", x.tangent(0, 0, 1, 0), 1);
            for (int k : new int[] {ways, ways + 1, p + 2, -2, GREATEST, LEAST}) {
                due("no more", x.tangent(0, 0, k, 0), NONE);
                due("no more, how often", x.tangent(0, 0, k, 1), NONE);
            }
        }
    }

    private static void waysTogether() {
        CurveMeets x = with("curve a=(y-2*x)^2*(y+x)*x;curve b=(x^2+y^2)*y^2;curve c=y-x^2;curve d=x*y*(x-y)*(x+y);");
        int[] ways = {3, 1, 1, 4};
        int[] together = {4, 2, 1, 4};
        for (int k = 0; k < 4; k++) {
            due("how many", x.tangent(k, 0, NONE, 0), ways[k]);
            due("all together", x.tangent(k, 0, NONE, 1), together[k]);
        }
    }

    private static void waysWithout() {
        CurveMeets x = with("curve a=(x^2+y^2)^2;curve b=y-1;curve c=y-x^2;");
        due("no WAY of these numbers", x.tangent(0, 0, NONE, 0), 0);
        due("none together", x.tangent(0, 0, NONE, 1), 0);
        due("no first", x.tangent(0, 0, 0, 0), NONE);
        due("no first's how often", x.tangent(0, 0, 0, 1), NONE);
        for (int k = -1; k <= 1; k++) {
            due("not ON it", x.tangent(1, 0, k, 0), NONE);
            due("not ON it", x.tangent(1, 0, k, 1), NONE);
        }
        items("one", k -> x.tangent(2, 0, k, 0), 0);
        items("how often", k -> x.tangent(2, 0, k, 1), 1);
        noneForOthers("tangent", 2, what -> x.tangent(2, 0, 0, what));
        noneForOthers("tangent, how many", 2, what -> x.tangent(2, 0, NONE, what));
        noSuchCurve("tangent", 3, c -> x.tangent(c, 0, NONE, 0), NONE);
        noSuchPoint("tangent", 7, q -> x.tangent(2, q, NONE, 0));
    }

    // ---- bends

    private static void bends() {
        CurveMeets x = with("curve a=y-x^2;curve b=y-x^3;curve c=y-x^4;curve d=x-y^4;curve e=x+y+y^3;");
        due("2", x.bend(0, 0), 2);
        due("3", x.bend(1, 0), 3);
        due("4", x.bend(2, 0), 4);
        due("4 by P", x.bend(3, 0), 4);
        due("3 aslant", x.bend(4, 0), 3);
        due("3 by WAY 2", with("curve a=(y-2*x)*(1+x)+x^3;").bend(0, 0), 3);
        due("2 at (1, 1)", x.bend(1, 8), 2);
        due("2 far", x.bend(0, 56), 2);
        due("2 far, by 0", with("curve a=x-y^2;").bend(0, 49), 2);
    }

    private static void bendsWithoutBound() {
        CurveMeets x = with("curve a=x+2*y;curve b=y+y^2;curve c=y+x*y^3;curve d=x-x*y^3;");
        for (int k = 0; k < 4; k++) {
            due("all goes", x.bend(k, 0), -2);
        }
        due("a line far", x.bend(0, 52), -2);
        due("one TERM of four is left", with("curve a=y+y^2+x^4;").bend(0, 0), 4);
    }

    private static void bendsOfOtherOrders() {
        CurveMeets x = with("curve a=x*y;curve b=y-1;curve c=x^4;");
        due("ORDER 2", x.bend(0, 0), NONE);
        due("ORDER 0", x.bend(1, 0), NONE);
        due("ORDER 4", x.bend(2, 0), NONE);
        noSuchCurve("bend", 3, c -> x.bend(c, 0), NONE);
        noSuchPoint("bend", 7, q -> x.bend(1, q));
    }

    private static void flexes() {
        CurveMeets x = with("curve a=y-x^2;curve b=y-x^3;curve c=y-x^4;curve d=y-1;curve e=x*y;");
        list("2 is too little", k -> x.flex(0, k));
        list("3", k -> x.flex(1, k), 0);
        list("4", k -> x.flex(2, k), 0);
        list("without bound", k -> x.flex(3, k), 1, 8, 15, 22, 29, 36, 43, 49);
        due("not where lines cross", x.flex(4, NONE), 14);
        CurveMeets y = with("field 3;curve a=y-x^3;");
        list("all that are near", k -> y.flex(0, k), 0, 4, 8);
        noSuchCurve("flex", 5, c -> x.flex(c, 0), NONE);
        noSuchCurve("flex, how many", 5, c -> x.flex(c, NONE), NONE);
        list("no POINT at all", k -> with(NOWHERE).flex(0, k));
    }

    private static void genusOf() {
        CurveMeets x = with("curve a=x;curve b=y-x^2;curve c=y^2-x^3-1;curve d=y^2-x^3;curve e=x^4+y^4-2;"
            + "curve f=y^3-x^4;");
        int[] genus = {0, 0, 1, 0, 3, 0};
        for (int k = 0; k < 6; k++) {
            due("GENUS of " + k, x.genus(k), genus[k]);
        }
    }

    private static void genusByOrders() {
        CurveMeets x = with("curve a=y-x^3;curve b=y-x^4;curve c=x*y*(x-y)*(x+y);curve d=x*(x-1)*(x-2)*(x-3);"
            + "curve e=(x^2-1)*(y^2-1);curve f=y^2-x^4;");
        due("ORDER 2, far", x.genus(0), 1 - 1);
        due("ORDER 3, far", x.genus(1), 3 - 3);
        due("ORDER 4", x.genus(2), 3 - 6);
        due("ORDER 4, far", x.genus(3), 3 - 6);
        due("ORDER 2, at four and at two far", x.genus(4), 3 - 4 - 2);
        due("ORDER 2, and 2 at 0 : 1 : 0", x.genus(5), 3 - 1 - 1);
    }

    private static void genusBelowZero() {
        CurveMeets x = with("field 31;curve a=(x-y)^4;curve b=x*y;curve c=x*(x-1);");
        // 3 less 4 times 3 by 2 at each of 32 POINTS.
        due("a line four times", x.genus(0), 3 - 32 * 6);
        due("two lines", x.genus(1), -1);
        due("two lines that meet far", x.genus(2), -1);
        due("without a POINT", with(NOWHERE).genus(0), 3);
        due("each POINT a node", with(EVERYWHERE).genus(0), 3 - 6);
    }

    private static void genusOfNone() {
        CurveMeets x = with("curve a=x;");
        noSuchCurve("genus", 1, x::genus, -100);
        noSuchCurve("genus", 0, new CurveMeets()::genus, -100);
        due("one", x.genus(0), 0);
    }

    // ---- promises 6 to 14

    private static void hasWhat() {
        CurveMeets x = with("field 31;curve a=x;curve b=y;");
        due("P", x.has(0), 31);
        due("CURVES", x.has(1), 2);
        due("POINTS", x.has(2), 993);
        due("ACTS", x.has(3), 0);
        due("POINTS modulo 2", with("field 2;").has(2), 7);
    }

    private static void hasNoOthers() {
        noneForOthers("has", 4, new CurveMeets()::has);
        noneForOthers("has", 4, with("field 31;curve a=x;")::has);
    }

    private static void lettersToTheLast() {
        CurveMeets x = with("curve azmbyc=x;curve k=y;");
        items("six letters", i -> i < 0 ? NONE : x.letter(0, i), 1, 26, 13, 2, 25, 3);
        due("none at -1", x.letter(0, -1), NONE);
        noSuchCurve("letter", 2, c -> x.letter(c, 0), NONE);
        noSuchCurve("letter", 0, c -> new CurveMeets().letter(c, 0), NONE);
    }

    private static void lettersBehindTheName() {
        CurveMeets x = with("curve abcdef=x;curve k=y;curve zz=x+y;");
        items("one letter", i -> i < 0 ? NONE : x.letter(1, i), 11, 0, 0, 0, 0, 0);
        alike("two", name(x, 2), "zz");
        read(x, "curve b=x;");
        alike("where a longer one stood", name(x, 0), "b");
    }

    private static void lettersOfMadeOnes() {
        CurveMeets x = with("curve a=x;curve abcdef=y;");
        due("a longer NAME goes", x.drop(1), 1);
        due("made in its place", x.make(0, 0, 0, 0), 1);
        items("of one that is MADE", i -> i < 0 ? NONE : x.letter(1, i), 0, 0, 0, 0, 0, 0);
        due("made", x.make(0, 8, 3, 0), 2);
        alike("of a line", name(x, 2), "");
    }

    private static void termsInBounds() {
        CurveMeets x = with("curve a=(x+y+1)^4;");
        int[] choices = {1, 1, 2, 6, 24};
        for (int i = -2; i <= 6; i++) {
            for (int j = -2; j <= 6; j++) {
                boolean fits = i >= 0 && j >= 0 && i + j <= 4;
                int want = fits ? 24 / choices[i] / choices[j] / choices[4 - i - j] % 7 : NONE;
                due("TERM " + i + " " + j, x.term(0, i, j), want);
            }
        }
        int[][] far = {{GREATEST, GREATEST}, {GREATEST, 1}, {1, GREATEST}, {LEAST, LEAST}, {LEAST, 0},
            {GREATEST, LEAST}, {0, LEAST}, {GREATEST, -GREATEST}};
        for (int[] term : far) {
            due("TERM " + term[0] + " " + term[1], x.term(0, term[0], term[1]), NONE);
        }
        noSuchCurve("term", 1, c -> x.term(c, 0, 0), NONE);
    }

    private static void degreesOfNone() {
        CurveMeets x = with("curve a=x;curve b=x^2*y^2;");
        due("the least", x.degree(0), 1);
        due("the greatest", x.degree(1), 4);
        noSuchCurve("degree", 2, x::degree, NONE);
        noSuchCurve("degree", 0, new CurveMeets()::degree, NONE);
    }

    private static void valuesOfNone() {
        for (int p : PRIMES) {
            CurveMeets x = with("field " + p + ";curve a=1-y^2;curve b=x;");
            due("the first", x.value(0, 0), 1);
            due("the last", x.value(0, p * p + p), p - 1);
            noSuchPoint("value", p, q -> x.value(0, q));
            noSuchCurve("value", 2, c -> x.value(c, 0), NONE);
        }
        noSuchCurve("value", 0, c -> new CurveMeets().value(c, 0), NONE);
    }

    private static void pointsByNumber() {
        CurveMeets x = with(EVERYWHERE);
        list("all POINTS", k -> x.point(0, k), 0, 1, 2, 3, 4, 5, 6, 7, 8, 9, 10, 11, 12);
        list("none", k -> with(NOWHERE).point(0, k));
        noSuchCurve("point", 1, c -> x.point(c, 0), NONE);
        noSuchCurve("point, how many", 1, c -> x.point(c, NONE), NONE);
        due("a line of 31", with("field 31;curve a=x;").point(0, NONE), 32);
        due("its last", with("field 31;curve a=x;").point(0, 31), 992);
    }

    private static void ordersOfNone() {
        CurveMeets x = with("curve a=x*y;curve b=x;");
        due("not ON it", x.order(0, 8), 0);
        due("the last POINT", x.order(0, 56), 1);
        noSuchCurve("order", 2, c -> x.order(c, 0), NONE);
        noSuchPoint("order", 7, q -> x.order(0, q));
    }

    private static void localInBounds() {
        CurveMeets x = with("curve a=(x-1)*(y-1)*(x+y-3)*(x+1);");
        for (int i = -1; i <= 6; i++) {
            for (int j = -1; j <= 6; j++) {
                boolean fits = i >= 0 && j >= 0 && i + j <= 4;
                for (int q : new int[] {8, 50, 56}) {
                    int got = x.local(0, q, i, j);
                    due("TERM " + i + " " + j + " at " + q, got >= 0 && got < 7, fits);
                    due("TERM " + i + " " + j + " at " + q, got == NONE, !fits);
                }
            }
        }
        int[][] far = {{GREATEST, GREATEST}, {GREATEST, 1}, {1, GREATEST}, {LEAST, 0}, {0, LEAST}, {GREATEST, LEAST}};
        for (int[] term : far) {
            due("TERM " + term[0] + " " + term[1], x.local(0, 0, term[0], term[1]), NONE);
        }
        // (x - 1)(y - 1)(x + y - 3)(x + 1) at (1, 1): u v (u + v - 1)(u + 2).
        due("four together", x.local(0, 8, 3, 1), 1);
        due("four together", x.local(0, 8, 2, 2), 1);
        due("four together", x.local(0, 8, 4, 0), 0);
        noSuchCurve("local", 1, c -> x.local(c, 0, 0, 0), NONE);
        noSuchPoint("local", 7, q -> x.local(0, q, 0, 0));
    }

    private static void singularOnes() {
        CurveMeets x = with("curve a=y^2-x^2*(x+1);curve b=y-x^2;curve c=(x-1)*(x+1)*(y-1)*y;curve d=y-x^3;");
        list("ORDER 2", k -> x.singular(0, k), 0);
        list("ORDER 1 is too little", k -> x.singular(1, k));
        list("near and far", k -> x.singular(2, k), 6 + 1, 6 + 2, 42, 43, 49, 56);
        list("far alone", k -> x.singular(3, k), 56);
        list("ORDER 3", k -> with("curve a=y^3-x^4;").singular(0, k), 0);
        list("ORDER 4", k -> with("curve a=x*y*(x-y)*(x+y);").singular(0, k), 0);
        list("no POINT at all", k -> with(NOWHERE).singular(0, k));
        due("a line twice", with("field 31;curve a=(x-y)^2;").singular(0, NONE), 32);
        noSuchCurve("singular", 4, c -> x.singular(c, 0), NONE);
        noSuchCurve("singular, how many", 4, c -> x.singular(c, NONE), NONE);
    }

    private static void sentencesOnTerms() {
        sentence("II", "POINTS are numbered: x P and y for (x, y); P P and m for the one at infinity with 1 : m : 0; "
            + "P P and P for 0 : 1 : 0.", CurveEdgesTest::pointNumbers);
        sentence("II", "each TERM comes by z to the n less i less j: its FORM", CurveEdgesTest::formsAtInfinity);
        sentence("II", "VALUE at a POINT: that of the FORM at x : y : 1, at 1 : m : 0, at 0 : 1 : 0.",
            CurveEdgesTest::valuesAtTheEdges);
        sentence("II", "A POINT is ON it, if that is 0.", CurveEdgesTest::pointsOn);
        sentence("II", "at (x, y) the CURVE by x and u, y and v; at 1 : m : 0 the FORM by 1, m and u, v; at 0 : 1 : 0 "
            + "the FORM by u, 1, v.", CurveEdgesTest::localNearAndFar);
        sentence("II", "ORDER of a CURVE at a POINT: the least i and j of a TERM of it.", CurveEdgesTest::orders);
        sentence("II", "WAYS are 0 .. P less 1 (u and v like 1 and it), P (like 0 and 1).",
            CurveEdgesTest::waysToTheLast);
        sentence("II", "as often as it is a root of the TERMS of LOCAL whose i and j together are ORDER",
            CurveEdgesTest::waysAsOften);
        sentence("II", "(how often these can be divided by v less it times u; for P, by u)",
            CurveEdgesTest::waysByDivision);
        sentence("II", "the least power of s in LOCAL", CurveEdgesTest::bends);
        sentence("II", "GENUS: (n less 1) times (n less 2) by 2", CurveEdgesTest::genusOf);
        sentence("II", "less m times (m less 1) by 2 for each POINT ON it, m being its ORDER there",
            CurveEdgesTest::genusByOrders);
    }

    private static void sentencesOfPromises() {
        sentence("Promise 6", "0 P, 1 CURVES, 2 POINTS, 3 ACTS that can be undone.", CurveEdgesTest::hasWhat);
        sentence("Promise 6", "NONE for others.", CurveEdgesTest::hasNoOthers);
        sentence("Promise 7", "Letter i (0 .. 5) of the NAME of a CURVE: 1 .. 26", CurveEdgesTest::lettersToTheLast);
        sentence("Promise 7", "0 behind it", CurveEdgesTest::lettersBehindTheName);
        sentence("Promise 7", "(of one that is MADE all)", CurveEdgesTest::lettersOfMadeOnes);
        sentence("Promise 8", "NONE when there is no such CURVE, i or j is below 0, or both together above 4.",
            CurveEdgesTest::termsInBounds);
        sentence("Promise 9", "NONE when there is none such.", CurveEdgesTest::degreesOfNone);
        sentence("Promise 10", "NONE when there is none such (either, as everywhere).", CurveEdgesTest::valuesOfNone);
        sentence("Promise 11",
            "The k-th POINT ON a CURVE, by numbers (k NONE: how many); NONE when there is none such.",
            CurveEdgesTest::pointsByNumber);
        sentence("Promise 12", "ORDER of a CURVE at a POINT; NONE when there is none such.",
            CurveEdgesTest::ordersOfNone);
        sentence("Promise 13", "NONE when there is none such, i or j is below 0, or both together above 4.",
            CurveEdgesTest::localInBounds);
        sentence("Promise 14", "The k-th POINT ON a CURVE with an ORDER of 2 or more (k NONE: how many)",
            CurveEdgesTest::singularOnes);
        sentence("Promise 15", "The k-th WAY that is TANGENT to a CURVE at a POINT, the least first (what 0), how often "
            + "it is (1)", CurveEdgesTest::waysByNumber);
        sentence("Promise 15", "k NONE: how many (what 0), all together as often (1).", CurveEdgesTest::waysTogether);
        sentence("Promise 15", "NONE when the POINT is not ON it, there is none such, or for others.",
            CurveEdgesTest::waysWithout);
        sentence("Promise 16", "-2 without bound", CurveEdgesTest::bendsWithoutBound);
        sentence("Promise 16", "NONE when it has not ORDER 1 there, there is none such.",
            CurveEdgesTest::bendsOfOtherOrders);
        sentence("Promise 17",
            "The k-th POINT of a CURVE with a BEND of 3 or more, or without bound (k NONE: how many)",
            CurveEdgesTest::flexes);
        sentence("Promise 18", "(it may be below 0)", CurveEdgesTest::genusBelowZero);
        sentence("Promise 18", "-100 when there is none such.", CurveEdgesTest::genusOfNone);
    }

    public static void main(String[] args) {
        sentencesOnTerms();
        sentencesOfPromises();
        close();
    }
}
