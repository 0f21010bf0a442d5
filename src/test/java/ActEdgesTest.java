/** The sentences on ACTS (Terms III, promises 30 to 35) that name a boundary: a test for each. */
public final class ActEdgesTest extends Answers {
    private static final String FIVE = "curve a=x;curve b=y;curve c=x+y;curve d=x-y;curve e=x*y;";

    private static boolean still(CurveMeets x) {
        return x.move(1, 0, 0, 0, 1, 0);
    }

    // ---- moves

    private static void movesOfAll() {
        CurveMeets x = with("curve a=x^2+y;curve b=y-1;curve c=x;");
        due("x to y + 3, y to 2 x", x.move(0, 1, 3, 2, 0, 0), true);
        alike("all", all(x), "field 7; a=1x0y2 2x1y0 6x0y1 2x0y0; b=2x1y0 6x0y0; c=1x0y1 3x0y0");
        CurveMeets none = new CurveMeets();
        due("of none", still(none), true);
        due("an ACT all the same", none.has(3), 1);
        CurveMeets four = with("curve a=x^4+3*y^4+x^2*y^2;");
        due("x to x - 1, y to y + x", four.move(1, 0, -1, 1, 1, 0), true);
        // (x - 1)^4 + 3 (y + x)^4 + (x - 1)^2 (y + x)^2, modulo 7.
        alike("all TERMS of four", all(four),
            "field 7; a=5x4y0 5x2y2 5x1y3 3x0y4 1x3y0 3x2y1 5x1y2 2x1y1 1x0y2 3x1y0 1x0y0");
    }

    private static void numbersOfMovesWrapAround() {
        for (int p : PRIMES) {
            int[] wild = {-1, -p, -p - 1, p, p + 1, GREATEST, GREATEST - 1, LEAST, LEAST + 1, 65536, 65537, -65536};
            for (int k = 0; k < wild.length; k++) {
                int n = wild[k];
                int m = wild[(k + 5) % wild.length];
                CurveMeets x = with("field " + p + ";curve a=x;curve b=y;");
                boolean fits = Math.floorMod(n, p) != 0;
                due("move " + n, x.move(n, m, n, 0, 1, m), fits);
                due("refused " + n, x.status(2), fits ? 0 : 1);
                due("x by x", x.term(0, 1, 0), fits ? Math.floorMod(n, p) : 1);
                due("x by y", x.term(0, 0, 1), fits ? Math.floorMod(m, p) : 0);
                due("x by 1", x.term(0, 0, 0), fits ? Math.floorMod(n, p) : 0);
                due("y by 1", x.term(1, 0, 0), fits ? Math.floorMod(m, p) : 0);
            }
        }
    }

    private static void movesThatCannotBe() {
        int[][] not = {{0, 0, 0, 0}, {1, 2, 2, 4}, {7, 0, 0, 1}, {1, 0, 0, 7}, {1, 1, 1, 8}, {0, 1, 7, 0}, {2, 3, 4, 6},
            {-1, 1, 1, -1}, {GREATEST, GREATEST, GREATEST, GREATEST}, {LEAST, 0, 0, 0}, {3, 1, 1, 5}};
        CurveMeets x = with("curve a=x+2*y+3;");
        for (int k = 0; k < not.length; k++) {
            int[] n = not[k];
            due("move " + k, x.move(n[0], n[1], 1, n[2], n[3], 1), false);
            due("refused", x.status(2), k + 1);
            due("no ACT", x.has(3), 0);
            alike("it stays", all(x), "field 7; a=1x1y0 2x0y1 3x0y0");
        }
        // 65536 times 65536 is 0 as an int, but 2 times 2 modulo 7.
        due("great ones that fit", x.move(65536, 0, 0, 0, 65536, 0), true);
        due("1 less 0", x.move(1, 7, 7, 7, 1, 7), true);
        due("0 less 1", x.move(0, 1, 0, 1, 0, 0), true);
        due("3 ACTS", x.has(3), 3);
        CurveMeets y = with("field 31;curve a=x;");
        due("30 times 30 less 1", y.move(30, 1, 0, 1, 30, 0), false);
        due("30 times 30 less 30", y.move(30, 30, 0, 1, 30, 0), true);
    }

    private static void movedPoints() {
        for (int p : PRIMES) {
            int last = p * p + p;
            CurveMeets x = with("field " + p + ";");
            for (int q : new int[] {0, 1, p * p - 1, p * p, last - 1, last}) {
                due("nowhere else " + q, x.moved(q, 1, 0, 0, 0, 1, 0), q);
            }
            // x and 1, y less 1: (p less 1, 0) comes to (0, p less 1).
            due("around", x.moved(p - 1, 1, 0, 1, 0, 1, -1), p * p - p);
            due("x by y", x.moved(p - 1, 0, 1, 0, 1, 0, 0), p * p - p);
            // (1, p less 1) comes to (1, 0) as 1, 1 less 1; (1, 0) to (1, 0) as 1 and 0.
            due("aslant", x.moved(p, 1, 0, 0, 1, 1, 0), p + p - 1);
            due("aslant the other way", x.moved(p, 1, 1, 0, 0, 1, 0), p);
            due("aslant at infinity", x.moved(p * p, 1, 0, 0, 1, 1, 0), p * p + p - 1);
            due("the last by the first at infinity", x.moved(last, 0, 1, 0, 1, 0, 0), p * p);
            due("and back", x.moved(p * p, 0, 1, 0, 1, 0, 0), last);
        }
    }

    private static void movedAtInfinity() {
        for (int p : PRIMES) {
            CurveMeets x = with("field " + p + ";");
            for (int q : new int[] {p * p, p * p + 1, p * p + p - 1, p * p + p}) {
                due("without e, f", x.moved(q, 1, 0, 1, 0, 1, p - 1), q);
                due("without great e, f", x.moved(q, 1, 0, GREATEST, 0, 1, LEAST), q);
            }
        }
    }

    private static void movedOfNone() {
        CurveMeets x = with("curve a=x;");
        noSuchPoint("moved", 7, q -> x.moved(q, 1, 0, 0, 0, 1, 0));
        due("can't be", x.moved(0, 1, 2, 0, 2, 4, 0), NONE);
        due("can't be modulo 7", x.moved(56, 7, 0, 0, 0, 1, 0), NONE);
        due("nothing is refused", x.status(2), 0);
        due("nothing is done", x.moved(0, 1, 0, 1, 0, 1, 1), 48);
        due("no ACT", x.has(3), 0);
        alike("it stays", all(x), "field 7; a=1x1y0");
    }

    private static void moveRefused() {
        CurveMeets x = with("curve a=x;");
        due("it is", x.move(1, 0, 1, 0, 1, 0), true);
        due("none refused", x.status(2), 0);
        due("it can't be", x.move(0, 0, 1, 0, 0, 0), false);
        due("refused", x.status(2), 1);
        due("one ACT", x.has(3), 1);
        due("others are not", x.status(0) + x.status(1) + x.status(3) + x.status(4), 0);
    }

    // ---- what is made

    /** A refused one changes nothing but how many were refused. */
    private static void refuses(CurveMeets x, int a, int b, int how, int t) {
        String stood = all(x);
        int acts = x.has(3);
        int refused = x.status(3);
        String call = "make(" + a + ", " + b + ", " + how + ", " + t + ")";
        due(call, x.make(a, b, how, t), NONE);
        due(call + ": refused", x.status(3), refused + 1);
        due(call + ": ACTS", x.has(3), acts);
        alike(call + ": all", all(x), stood);
    }

    private static void makes(CurveMeets x, int a, int b, int how, int t, String terms) {
        int count = x.has(1);
        int acts = x.has(3);
        String call = "make(" + a + ", " + b + ", " + how + ", " + t + ")";
        due(call, x.make(a, b, how, t), count);
        alike(call + ": its TERMS", terms(x, count), terms);
        alike(call + ": its NAME", name(x, count), "");
        due(call + ": ACTS", x.has(3), Math.min(acts + 1, 20));
        due(call + ": undo", x.undo(), true);
        due(call + ": it goes", x.has(1), count);
    }

    private static void productsToFour() {
        String text = "curve a=x+y;curve b=y-x^2;curve c=x*y^2+y;curve d=x^2*y^2+1;curve e=x;";
        makes(with(text), 0, 1, 0, 0, "6x3y0 6x2y1 1x1y1 1x0y2");
        makes(with(text), 1, 1, 0, 9, "1x4y0 5x2y1 1x0y2");
        makes(with(text), 2, 4, 0, 0, "1x2y2 1x1y1");
        refuses(with(text), 1, 2, 0, 0);
        refuses(with(text), 3, 0, 0, 0);
        refuses(with(text), 0, 3, 0, 0);
        refuses(with(text), 3, 3, 0, 0);
    }

    private static void mixedOnes() {
        String text = "curve a=x+y;curve b=y-x;curve c=2*x^2+3;curve d=x^2;curve e=x+y+1;";
        makes(with(text), 0, 1, 1, 1, "2x0y1");
        makes(with(text), 0, 1, 1, 0, "1x1y0 1x0y1");
        makes(with(text), 0, 1, 1, 7, "1x1y0 1x0y1");
        makes(with(text), 0, 1, 1, -1, "2x1y0");
        makes(with(text), 0, 0, 1, 5, "6x1y0 6x0y1");
        // 2147483647 is 1 modulo 7, - 2147483648 is 5.
        makes(with(text), 0, 1, 1, GREATEST, "2x0y1");
        makes(with(text), 0, 1, 1, LEAST, "3x1y0 6x0y1");
        refuses(with(text), 0, 0, 1, 6);
        refuses(with(text), 0, 0, 1, -1);
        refuses(with(text), 0, 0, 1, -8);
        refuses(with(text), 2, 3, 1, -2);
        refuses(with(text), 0, 4, 1, 6);
        refuses(with(text), 4, 0, 1, -GREATEST);
    }

    private static void commonOnes() {
        String text = "curve a=2*x*(y-1);curve b=3*x*(y+1);curve c=y;curve d=(y-1)^2*x^2;";
        makes(with(text), 0, 1, 2, 0, "1x1y0");
        makes(with(text), 0, 3, 2, 0, "1x1y1 6x1y0");
        makes(with(text), 1, 1, 2, 0, "1x1y1 1x1y0");
        makes(with(text), 3, 3, 2, 0, "1x2y2 5x2y1 1x2y0");
        refuses(with(text), 0, 2, 2, 0);
        refuses(with(text), 2, 3, 2, 0);
    }

    private static void linesThrough() {
        String text = "field 5;curve a=x;";
        makes(with(text), 0, 24, 3, 0, "1x1y0 4x0y1");
        makes(with(text), 7, 14, 3, 0, "1x1y0 2x0y1");
        makes(with(text), 14, 7, 3, 0, "1x1y0 2x0y1");
        makes(with(text), 3, 25, 3, 0, "1x0y1 2x0y0");
        makes(with(text), 30, 21, 3, 0, "1x1y0 1x0y0");
        makes(with(text), 29, 0, 3, 0, "1x1y0 1x0y1");
        refuses(with(text), 7, 7, 3, 0);
        refuses(with(text), 30, 30, 3, 0);
        refuses(with(text), 25, 25, 3, 0);
        CurveMeets x = with(text);
        noSuchPoint("line from", 5, q -> x.make(q, 0, 3, 0));
        noSuchPoint("line to", 5, q -> x.make(0, q, 3, 0));
        noSuchPoint("line of none", 5, q -> x.make(q, q, 3, 0));
        makes(new CurveMeets(), 0, 8, 3, 0, "1x1y0 6x0y1");
    }

    private static void neverAtInfinity() {
        for (int p : PRIMES) {
            String text = "field " + p + ";curve a=y-x^2;curve b=y-1;curve c=x*y-1;";
            int last = p * p + p;
            refuses(with(text), p * p, last, 3, 0);
            refuses(with(text), last, p * p + p - 1, 3, 0);
            refuses(with(text), p * p, p * p + 1, 3, 0);
            refuses(with(text), 0, last, 4, 0);
            makes(with(text), 1, p * p, 4, 0, "1x0y1 " + (p - 1) + "x0y0");
            makes(with(text), 2, last, 4, 0, "1x1y0");
            makes(with(text), 2, p * p, 4, 0, "1x0y1");
        }
    }

    private static void tangentLines() {
        String text = "field 5;curve a=y-x^2;curve b=x*y;curve c=(y-1)*(x-1)^2;curve d=x-y^2;curve e=2*y+3*x+1;";
        makes(with(text), 0, 0, 4, 0, "1x0y1");
        makes(with(text), 0, 14, 4, 0, "1x1y0 1x0y1 4x0y0");
        makes(with(text), 3, 0, 4, 0, "1x1y0");
        makes(with(text), 1, 1, 4, 0, "1x1y0");
        makes(with(text), 4, 5 + 3, 4, 0, "1x1y0 4x0y1 2x0y0");
        // 2 y + x + z at 1 : 2 : 0: 2 u and v, so that the line is its own.
        makes(with("field 5;curve a=2*y+x+1;"), 0, 25 + 2, 4, 0, "1x1y0 2x0y1 1x0y0");
        // (y - 2 x - z)(y - 3 x) - z z at 1 : 2 : 0: (u - v)(u - 1) - v v.
        makes(with("curve a=(y-2*x-1)*(y-3*x)-1;"), 0, 49 + 2, 4, 0, "1x1y0 3x0y1 4x0y0");
        refuses(with(text), 1, 0, 4, 0);
        refuses(with(text), 2, 6, 4, 0);
        refuses(with(text), 2, 5, 4, 0);
        refuses(with(text), 0, 1, 4, 0);
        refuses(with(text), 0, 29, 4, 0);
        CurveMeets x = with(text);
        noSuchPoint("tangent line", 5, q -> x.make(0, q, 4, 0));
        noSuchCurve("tangent line", 5, c -> x.make(c, 0, 4, 0), NONE);
    }

    private static void firstTermOfLines() {
        for (int p : PRIMES) {
            String text = "field " + p + ";curve a=" + (p - 1) + "*x-y;curve b=" + (p - 1) + "*y+1;";
            makes(with(text), 0, 0, 4, 0, "1x1y0 1x0y1");
            makes(with(text), 1, 1, 4, 0, "1x0y1 " + (p - 1) + "x0y0");
            // (0, 1) and (1, 0): x + y - 1.
            makes(with(text), 1, p, 3, 0, "1x1y0 1x0y1 " + (p - 1) + "x0y0");
            makes(with(text), 1, p + 1, 3, 0, "1x0y1 " + (p - 1) + "x0y0");
        }
    }

    private static void derivatives() {
        String text = "field 3;curve a=x^3+x^2*y+y;curve b=x+y;curve c=x^4+x^3*y^1;curve d=y^3;curve e=2*x^2+y^4;";
        makes(with(text), 0, 0, 5, 0, "2x1y1");
        makes(with(text), 0, 1, 5, 0, "1x2y0 1x0y0");
        makes(with(text), 2, 0, 5, 0, "1x3y0");
        makes(with(text), 2, 1, 5, 0, "1x3y0");
        makes(with(text), 4, 0, 5, 0, "1x1y0");
        makes(with(text), 4, 1, 5, 7, "1x0y3");
        refuses(with(text), 1, 0, 5, 0);
        refuses(with(text), 1, 1, 5, 0);
        refuses(with(text), 3, 0, 5, 0);
        refuses(with(text), 3, 1, 5, 0);
    }

    private static void derivativesByNothing() {
        String text = "curve a=x^2*y^2;";
        makes(with(text), 0, 0, 5, 0, "2x1y2");
        makes(with(text), 0, 1, 5, 0, "2x2y1");
        for (int by : new int[] {-1, 2, 3, GREATEST, LEAST}) {
            refuses(with(text), 0, by, 5, 0);
        }
    }

    /** What was MADE ahead of it has no part in one. */
    private static void madeOneByOne() {
        CurveMeets x = with("curve a=x^2*y+3;curve b=x+y;");
        due("a derivative", x.make(0, 0, 5, 0), 2);
        due("another", x.make(0, 1, 5, 0), 3);
        due("a line", x.make(0, 8, 3, 0), 4);
        due("a product", x.make(1, 4, 0, 0), 5);
        alike("each by itself", all(x),
            "field 7; a=1x2y1 3x0y0; b=1x1y0 1x0y1; =2x1y1; =1x2y0; =1x1y0 6x0y1; =1x2y0 6x0y2");
        due("drop", x.drop(5), 2);
        for (int how = 0; how < 3; how++) {
            due("with no first, " + how, x.make(9, 1, how, 1), NONE);
            due("with no second, " + how, x.make(1, 9, how, 1), NONE);
        }
        due("a line of like POINTS", x.make(8, 8, 3, 0), NONE);
        due("a line of no POINT", x.make(8, 57, 3, 0), NONE);
        due("a line at infinity", x.make(49, 50, 3, 0), NONE);
        due("a tangent of ORDER 0", x.make(0, 0, 4, 0), NONE);
        due("a derivative of none", x.make(9, 0, 5, 0), NONE);
        due("a derivative by nothing", x.make(0, 2, 5, 0), NONE);
        due("a derivative that is 1", x.make(1, 0, 5, 0), NONE);
        due("a product of 5", x.make(0, 2, 0, 0), NONE);
        due("no such how", x.make(0, 1, 6, 0), NONE);
        due("five stay", x.has(1), 5);
    }

    private static void noNames() {
        CurveMeets x = with("curve abcdef=x+y;");
        due("a copy", x.make(0, 0, 1, 0), 1);
        due("another", x.make(1, 0, 2, 0), 2);
        due("a square", x.make(0, 1, 0, 0), 3);
        alike("no NAME", name(x, 1) + name(x, 2) + name(x, 3), "");
        due("letter 0", x.letter(3, 0), 0);
        due("letter 5", x.letter(3, 5), 0);
    }

    private static void thereAreSix() {
        CurveMeets x = with(FIVE);
        due("the sixth", x.make(0, 1, 0, 0), 5);
        refuses(x, 0, 1, 0, 0);
        due("drop", x.drop(0), 1);
        due("the sixth again", x.make(0, 1, 0, 0), 5);
        String six = FIVE + "curve f=x;";
        refuses(with(six), 0, 1, 1, 1);
        refuses(with(six), 0, 0, 2, 0);
        refuses(with(six), 0, 8, 3, 0);
        refuses(with(six), 0, 0, 4, 0);
        refuses(with(six), 4, 0, 5, 0);
    }

    private static void makesOfNone() {
        CurveMeets x = with("curve a=x^2;curve b=x*y;");
        for (int how : new int[] {-1, 6, 7, GREATEST, LEAST}) {
            refuses(with("curve a=x^2;curve b=x*y;"), 0, 1, how, 0);
        }
        for (int how = 0; how < 3; how++) {
            int asked = how;
            noSuchCurve("make, first", 2, c -> x.make(c, 0, asked, 1), NONE);
            noSuchCurve("make, second", 2, c -> x.make(0, c, asked, 1), NONE);
        }
        noSuchCurve("derivative", 2, c -> x.make(c, 0, 5, 0), NONE);
        due("none was made", x.has(1), 2);
        due("no ACT", x.has(3), 0);
        due("all were refused", x.status(3), 7 * 8);
    }

    // ---- drops and undos

    private static void dropped() {
        CurveMeets x = with("curve a=x;curve bb=x^2+y;curve c=y^3;curve dddddd=x^4;");
        due("one between", x.drop(1), 2);
        alike("those behind are one less", all(x), "field 7; a=1x1y0; c=1x0y3; dddddd=1x4y0");
        due("the last", x.drop(2), 4);
        alike("none is behind", all(x), "field 7; a=1x1y0; c=1x0y3");
        due("the first", x.drop(0), 1);
        alike("one is left", all(x), "field 7; c=1x0y3");
        due("the only one", x.drop(0), 3);
        alike("none is left", all(x), "field 7");
        due("ACTS", x.has(3), 4);
        CurveMeets six = with(FIVE + "curve f=x^2;");
        due("the first of six", six.drop(0), 1);
        alike("the sixth is the fifth", all(six),
            "field 7; b=1x0y1; c=1x1y0 1x0y1; d=1x1y0 6x0y1; e=1x1y1; f=1x2y0");
        due("there is no sixth", six.degree(5), NONE);
    }

    private static void dropsOfNone() {
        CurveMeets x = with("curve a=x;curve b=y;");
        noSuchCurve("drop", 2, x::drop, NONE);
        due("refused", x.status(3), 8);
        due("both stand", x.has(1), 2);
        due("no ACT", x.has(3), 0);
        CurveMeets none = new CurveMeets();
        due("of none", none.drop(0), NONE);
        due("refused", none.status(3), 1);
    }

    private static void lastTwenty() {
        CurveMeets x = with("field 31;curve a=x;");
        for (int k = 1; k <= 25; k++) {
            due("ACT", x.move(1, 0, 1, 0, 1, 0), true);
            due("how many", x.has(3), Math.min(k, 20));
        }
        for (int k = 1; k <= 20; k++) {
            due("undo", x.undo(), true);
            due("how many are left", x.has(3), 20 - k);
            due("as it was", x.term(0, 0, 0), 25 - k);
        }
        due("the 21st", x.undo(), false);
        due("as five ACTS made it", x.term(0, 0, 0), 5);
        CurveMeets y = with("curve a=x;");
        for (int k = 0; k < 20; k++) {
            y.move(1, 0, 1, 0, 1, 0);
        }
        for (int k = 0; k < 20; k++) {
            due("twenty of twenty", y.undo(), true);
        }
        due("no more", y.undo(), false);
        due("as told", y.term(0, 0, 0), 0);
    }

    private static void actsAfterUndos() {
        CurveMeets x = with("field 31;curve a=x;");
        for (int k = 0; k < 25; k++) {
            x.move(1, 0, 1, 0, 1, 0);
        }
        for (int k = 0; k < 7; k++) {
            x.undo();
        }
        due("13 are left", x.has(3), 13);
        for (int k = 0; k < 10; k++) {
            x.move(1, 0, 0, 0, 1, 1);
        }
        due("twenty again", x.has(3), 20);
        // 18 are in e; of the 20 that can be undone 10 are those by f.
        due("now", x.term(0, 0, 0), 18);
        for (int k = 0; k < 10; k++) {
            due("those by f", x.undo(), true);
            due("change nothing in x", x.term(0, 0, 0), 18);
        }
        for (int k = 1; k <= 10; k++) {
            due("those by e", x.undo(), true);
            due("one by one", x.term(0, 0, 0), 18 - k);
        }
        due("no more", x.undo(), false);
    }

    private static void undoneWholly() {
        CurveMeets x = with("curve abc=x^2+2;curve f=y^4;");
        due("move", x.move(2, 1, 3, 1, 1, 5), true);
        String moved = all(x);
        due("drop", x.drop(0), 2);
        String dropped = all(x);
        due("make", x.make(0, 0, 1, 1), 1);
        String made = all(x);
        due("drop", x.drop(0), 4);
        due("undo the drop", x.undo(), true);
        alike("as made", all(x), made);
        due("undo the making", x.undo(), true);
        alike("as dropped", all(x), dropped);
        due("undo the first drop", x.undo(), true);
        alike("as moved", all(x), moved);
        due("undo the MOVE", x.undo(), true);
        alike("as told", all(x), "field 7; abc=1x2y0 2x0y0; f=1x0y4");
        due("an ACT again", x.drop(1), 4);
        due("undo it", x.undo(), true);
        alike("as told", all(x), "field 7; abc=1x2y0 2x0y0; f=1x0y4");
    }

    private static void undoOfNone() {
        CurveMeets x = new CurveMeets();
        due("a new one", x.undo(), false);
        due("refused", x.status(4), 1);
        read(x, "curve a=x;");
        due("behind a text", x.undo(), false);
        due("refused", x.status(4), 2);
        due("one ACT", still(x), true);
        due("undone", x.undo(), true);
        due("only once", x.undo(), false);
        due("refused", x.status(4), 3);
        alike("it stays", all(x), "field 7; a=1x1y0");
    }

    private static void refusedIsNoAct() {
        CurveMeets x = with("curve a=x;");
        due("ACT", x.move(1, 0, 1, 0, 1, 0), true);
        x.move(0, 0, 0, 0, 0, 0);
        x.make(0, 9, 0, 0);
        x.drop(1);
        x.moved(0, 1, 0, 1, 0, 1, 0);
        x.feed(0, 0, 0, 0, 0);
        x.end(0);
        due("one", x.has(3), 1);
        due("the latest is undone", x.undo(), true);
        alike("as told", all(x), "field 7; a=1x1y0");
        due("what was refused stays", x.status(2) + x.status(3), 3);
    }

    // ---- what was refused

    private static void refusals() {
        CurveMeets x = new CurveMeets();
        int[] want = new int[5];
        for (int round = 1; round <= 3; round++) {
            x.end(-1);
            x.end(GREATEST);
            x.feed(0x24242424, 0, 0, 0, 0);
            x.curves();
            x.move(0, 0, 0, 0, 0, 0);
            x.make(0, 0, 0, 0);
            x.drop(0);
            x.undo();
            want[0] += 2;
            want[1] += 1;
            want[2] += 1;
            want[3] += 2;
            want[4] += 1;
            for (int what = 0; what < 5; what++) {
                due("round " + round + ", " + what, x.status(what), want[what]);
            }
        }
        due("a text", read(x, "curve a=x;"), 1);
        for (int what = 0; what < 5; what++) {
            due("stays behind a text, " + what, x.status(what), want[what]);
        }
    }

    private static void questionsAreNotRefused() {
        CurveMeets x = with("curve a=x;");
        x.has(9);
        x.fault(9);
        x.degree(1);
        x.value(0, 57);
        x.point(0, 99);
        x.times(0, 1, 0);
        x.parts(0, 0, 25);
        x.total(0, 0, 0);
        x.knot(57, 0);
        x.moved(57, 1, 0, 0, 0, 1, 0);
        x.moved(0, 0, 0, 0, 0, 0, 0);
        x.status(5);
        for (int what = 0; what < 5; what++) {
            due("status " + what, x.status(what), 0);
        }
    }

    private static void statusOfOthers() {
        CurveMeets x = new CurveMeets();
        noneForOthers("status", 5, x::status);
        x.undo();
        noneForOthers("status", 5, x::status);
    }

    private static void callsOfOneObject() {
        CurveMeets x = new CurveMeets();
        int calls = 0;
        for (; calls < 500; calls++) {
            switch (calls % 5) {
                case 0: x.feed(0x63757276, 0x65206120, 0x3d20792d, 0x785e3320, 0x3b202020); break;
                case 1: x.curves(); break;
                case 2: x.move(2, 1, 1, 1, 1, 3); break;
                case 3: x.make(0, 0, 1, 2); break;
                default: x.total(0, 1, 1);
            }
        }
        due("call 501", x.has(1), 2);
        due("call 502", x.undo(), true);
        due("call 503", x.undo(), true);
        due("call 504", x.undo(), false);
        due("call 505", x.status(4), 1);
        due("call 506", x.letter(0, 0), 1);
        due("call 507", x.term(0, 3, 0), 6);
        due("call 508", x.flex(0, 0), 0);
        due("call 509", x.size(0, 0, 0), 17);
        due("call 510", x.make(0, 0, 4, 0), 1);
        due("call 511", x.times(0, 1, 0), 3);
        due("call 512", x.rules(0, 1, 0, 1), 1);
    }

    private static void none() {
        due("NONE", CurveMeets.NONE, -1);
    }

    private static void sentencesOnTerms() {
        sentence("What it is", "An object is used for at most 512 calls after it has been made",
            ActEdgesTest::callsOfOneObject);
        sentence("The constants", "`NONE = -1`: There is none; it is refused.", ActEdgesTest::none);
        sentence("III", "in all CURVES x becomes a x and b y and e, y becomes c x and d y and f",
            ActEdgesTest::movesOfAll);
        sentence("III", "a d less b c must not be 0.", ActEdgesTest::movesThatCannotBe);
        sentence("III", "the product of two (its DEGREE 4 at most)", ActEdgesTest::productsToFour);
        sentence("III", "one and t times another one (neither DEGREE 0 nor 0)", ActEdgesTest::mixedOnes);
        sentence("III", "the COMMON PART of two (DEGREE 1 at least)", ActEdgesTest::commonOnes);
        sentence("III", "the LINE through two unlike POINTS", ActEdgesTest::linesThrough);
        sentence("III", "the LINE TANGENT at a POINT of ORDER 1", ActEdgesTest::tangentLines);
        sentence("III", "neither can be z = 0", ActEdgesTest::neverAtInfinity);
        sentence("III", "the first of its TERMS has 1, x ahead of y", ActEdgesTest::firstTermOfLines);
        sentence("III", "(each TERM i, or j, times, with one x or y less; DEGREE 1 at least)",
            ActEdgesTest::derivatives);
        sentence("III", "MADE are CURVES more", ActEdgesTest::madeOneByOne);
        sentence("III", "Their NAMES are none.", ActEdgesTest::noNames);
        sentence("III", "a CURVE that goes (those behind it are one less)", ActEdgesTest::dropped);
        sentence("III", "The last 20 can be undone.", ActEdgesTest::lastTwenty);
    }

    private static void sentencesOfPromises() {
        sentence("Promise 30", "A MOVE: true; false, refused (2), when it can't be.", ActEdgesTest::moveRefused);
        sentence("Promise 30", "(All numbers modulo P, 0 or more.)", ActEdgesTest::numbersOfMovesWrapAround);
        sentence("Promise 31", "which POINT a POINT of now would be then", ActEdgesTest::movedPoints);
        sentence("Promise 31", "at infinity without e, f", ActEdgesTest::movedAtInfinity);
        sentence("Promise 31", "NONE when it can't be, there is none such.", ActEdgesTest::movedOfNone);
        sentence("Promise 32", "5 CURVE a by derivatives by x (b 0), y (b 1)", ActEdgesTest::derivativesByNothing);
        sentence("Promise 32", "NONE, refused (3), when it can't be, there are 6", ActEdgesTest::thereAreSix);
        sentence("Promise 32", "there is none such.", ActEdgesTest::makesOfNone);
        sentence("Promise 33", "A CURVE goes: its DEGREE; NONE, refused (3), when there is none such.",
            ActEdgesTest::dropsOfNone);
        sentence("Promise 34", "The latest ACT is undone", ActEdgesTest::actsAfterUndos);
        sentence("Promise 34", "all that ACTS change is as it was ahead of it", ActEdgesTest::undoneWholly);
        sentence("Promise 34", "false, refused (4), when none can be.", ActEdgesTest::undoOfNone);
        sentence("Promise 34", "all that ACTS change", ActEdgesTest::refusedIsNoAct);
        sentence("Promise 35", "How many were refused: 0 feed(), end(); 1 curves(); 2 move(); 3 make(), drop(); "
            + "4 undo().",
            ActEdgesTest::refusals);
        sentence("Promise 35", "How many were refused", ActEdgesTest::questionsAreNotRefused);
        sentence("Promise 35", "NONE for others.", ActEdgesTest::statusOfOthers);
    }

    public static void main(String[] args) {
        sentencesOnTerms();
        sentencesOfPromises();
        close();
    }
}
