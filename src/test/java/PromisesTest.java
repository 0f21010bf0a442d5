/** Each promise of the document by answers reckoned by hand: ordinary ones, edges, wrong inputs. */
public final class PromisesTest extends Answers {
    private static void promise1() {
        CurveMeets x = new CurveMeets();
        due("new: P", x.has(0), 7);
        due("new: CURVES", x.has(1), 0);
        due("new: POINTS", x.has(2), 57);
        due("new: ACTS", x.has(3), 0);
        due("new: end(0)", x.end(0), true);
        due("new: end(1)", x.end(1), false);
        for (int what = 1; what < 5; what++) {
            due("new: status " + what, x.status(what), 0);
        }
    }

    private static void promise2() {
        CurveMeets x = new CurveMeets();
        for (int k = 1; k <= 50; k++) {
            due("feed " + k, x.feed(0, 0, 0, 0, 0), 20 * k);
        }
        due("feed beyond 1000", x.feed(0, 0, 0, 0, 0), -1);
        due("feed refused", x.status(0), 1);
        due("end(1000)", x.end(1000), true);
        due("end(981)", x.end(981), true);
        due("feed at 981", x.feed(0, 0, 0, 0, 0), -1);
        due("end(980)", x.end(980), true);
        due("feed at 980", x.feed(0, 0, 0, 0, 0), 1000);
        due("feeds refused", x.status(0), 2);
        CurveMeets bytes = new CurveMeets();
        bytes.feed(0x63757276, 0x65206162, 0x63646566, 0x3d782a79, 0x2d313b20);
        due("the highest byte first", bytes.curves(), 1);
        due("its letter", bytes.letter(0, 1), 2);
        alike("its terms", terms(bytes, 0), "1x1y1 6x0y0");
        bytes.feed(-1, 0, 0, 0, 0);
        bytes.curves();
        due("a byte 255", bytes.fault(1), 0);
    }

    private static void promise3() {
        CurveMeets x = new CurveMeets();
        x.feed(0x63757276, 0x6520613d, 0x783b2020, 0, 0);
        due("end(-1)", x.end(-1), false);
        due("end(21)", x.end(21), false);
        due("end(the least)", x.end(Integer.MIN_VALUE), false);
        due("ends refused", x.status(0), 3);
        due("end(20)", x.end(20), true);
        due("end(12)", x.end(12), true);
        due("end(13)", x.end(13), false);
        due("what stands is read", x.curves(), 1);
        x.feed(0, 0, 0, 0, 0);
        due("end(0)", x.end(0), true);
        due("no text, no CURVES", x.curves(), 0);
    }

    private static void promise4() {
        CurveMeets x = new CurveMeets();
        due("two", read(x, "field 11;curve a=x;curve b=y;"), 2);
        due("the tape went", x.end(1), false);
        due("an ACT", x.move(1, 0, 1, 0, 1, 0), true);
        due("refused", read(x, "curve a=x;curve a=y;"), -1);
        due("the tape went too", x.end(1), false);
        due("P stays", x.has(0), 11);
        due("CURVES stay", x.has(1), 2);
        alike("as they were", terms(x, 0), "1x1y0 1x0y0");
        due("ACTS stay", x.has(3), 1);
        due("one refused", x.status(1), 1);
        due("another text", read(x, "curve c=x^2-y;"), 1);
        due("7 without", x.has(0), 7);
        due("no ACT to undo", x.has(3), 0);
        due("none is undone", x.undo(), false);
        due("an empty one", x.curves(), 0);
        due("no CURVES now", x.has(1), 0);
        CurveMeets field = with("field 31;");
        due("a field alone", field.has(0), 31);
        due("six", read(x, "curve a=x;curve b=x;curve c=x;curve d=x;curve e=x;curve f=x;"), 6);
    }

    private static void promise5() {
        CurveMeets x = new CurveMeets();
        due("ahead of any", x.fault(0), 0);
        due("its place", x.fault(1), -1);
        due("other", x.fault(2), -1);
        due("below", x.fault(-1), -1);
        due("fault", read(x, "curve"), -1);
        due("kind", x.fault(0), 1);
        due("place", x.fault(1), 5);
        due("fine", read(x, "curve a=x;"), 1);
        due("kind after", x.fault(0), 0);
        due("place after", x.fault(1), -1);
        faultsOfForm();
        faultsOfNumbers();
        faultsOfMuch();
        fineTexts();
    }

    private static void faultsOfForm() {
        faulty("a", 1, 0);
        faulty(";", 1, 0);
        faulty("  curves a=x;", 1, 2);
        faulty("field7;", 1, 5);
        faulty("field9;", 1, 5);
        faulty("field x;", 1, 6);
        faulty("field 7", 1, 7);
        faulty("field 7 \n", 1, 9);
        faulty("field 7 7;", 1, 8);
        faulty("field 7;field 7;", 1, 8);
        faulty("curve a=x;field 7;", 1, 10);
        faulty("curve a=x", 1, 9);
        faulty("curve  ", 1, 7);
        faulty("curve x=y;", 1, 6);
        faulty("curve y=y;", 1, 6);
        faulty("curve field=y;", 1, 6);
        faulty("curve curve=y;", 1, 6);
        faulty("curve abcdefg=y;", 1, 6);
        faulty("curve a1=x;", 1, 7);
        faulty("curve1=x;", 1, 5);
        faulty("curve A=x;", 1, 6);
        faulty("curve a=+x;", 1, 8);
        faulty("curve a=--x;", 1, 9);
        faulty("curve a=x*-y;", 1, 10);
        faulty("curve a=;", 1, 8);
        faulty("curve a=x2;", 1, 9);
        faulty("curve a=2x;", 1, 9);
        faulty("curve a=x y;", 1, 10);
        faulty("curve a=xy;", 1, 8);
        faulty("curve a=z;", 1, 8);
        faulty("curve a=x^;", 1, 10);
        faulty("curve a=x^y;", 1, 10);
        faulty("curve a=x^2^2;", 1, 11);
        faulty("curve a=x);", 1, 9);
        faulty("curve a=(x;", 1, 10);
        faulty("curve a=();", 1, 9);
        faulty("curve a=x\t;", 1, 9);
        faulty("curve a=3", 1, 9);
        faulty("curve a==x;", 1, 8);
        faulty("curve a=x;;", 1, 10);
        faulty("curve a=99999999999 x", 2, 8);
        faulty("curve a=x 99999999999;", 1, 10);
    }

    private static void faultsOfNumbers() {
        faulty("field 0;", 2, 6);
        faulty("field 1;", 2, 6);
        faulty("field 4;", 2, 6);
        faulty("field 9;", 2, 6);
        faulty("field 33;", 2, 6);
        faulty("field 37;", 2, 6);
        faulty("field 2147483648", 2, 6);
        faulty("field 4294967303;", 2, 6);
        faulty("curve a=x^5;", 2, 10);
        faulty("curve a=x^ 5;", 2, 11);
        faulty("curve a=0^4294967296;", 2, 10);
        faulty("curve a=x+2147483648;", 2, 10);
        faulty("curve a=x+18446744073709551617;", 2, 10);
        faulty("curve a=x^2;curve a=y^5;", 3, 18);
        faulty("curve abcdef=x;curve abcdef=", 3, 21);
    }

    private static void faultsOfMuch() {
        String six = "curve a=x;curve b=x;curve c=x;curve d=x;curve e=x;curve f=x;";
        faulty(six + "curve g=x;", 4, 60);
        faulty(six + "curve", 4, 60);
        faulty(six + "curve7", 4, 60);
        faulty(six + "curves", 1, 60);
        faulty("curve a=" + repeat("(", 41) + "x", 4, 48);
        faulty("curve a=" + repeat("(", 40) + "x", 1, 49);
        faulty("curve a=x" + repeat("(", 41), 1, 9);
        faulty("curve a=x^4*y;", 4, 12);
        faulty("curve a=x^4*y", 4, 12);
        faulty("curve a=x^4*y^;", 1, 14);
        faulty("curve a=x^4*y^5;", 2, 14);
        faulty("curve a=x^4*(y-y+x);", 4, 12);
        faulty("curve a=(x*y)^3;", 4, 8);
        faulty("curve a=0*(x*y)^3;", 4, 10);
        faulty("curve a=x^2*(x*y)^3;", 4, 12);
        faulty("curve a=x^3*x^2*0;", 4, 12);
        faulty("curve a=x-(x^3*x^2)^2;", 4, 15);
        faulty("curve a=x^4*y$", 4, 12);
        faulty("curve a=0;", 5, 6);
        faulty("curve a=x-x;", 5, 6);
        faulty("curve a=7*x;", 5, 6);
        faulty("curve  a=3 ;$", 5, 7);
        faulty("curve a=3$;", 1, 9);
        faulty("curve b=x;curve a=x^0;", 5, 16);
        faulty("curve b=x;curve b=1;", 3, 16);
    }

    private static void fineTexts() {
        CurveMeets x = with("\n field\n2 ;\n curve abcdef=x^4*0*y^4+x ;curve abcde = - ( y ) ; ");
        alike("modulo 2", terms(x, 0) + ", " + terms(x, 1), "1x1y0, 1x0y1");
        x = with("curve a=2147483647*x-00010;curve b=(x+x*6)^4*x^4+y;curve c=0^0*x;");
        alike("great numbers", terms(x, 0), "1x1y0 4x0y0");
        alike("what comes to 0", terms(x, 1), "1x0y1");
        alike("the power 0 of 0", terms(x, 2), "1x1y0");
        x = with("curve a=" + repeat("(", 40) + "x" + repeat(")", 40) + "^3*(-(y));");
        alike("40 open", terms(x, 0), "6x3y1");
        x = with("curve a=(x-y)^2*(x+1)-(x-(y-1))*2;");
        alike("what is in ( )", terms(x, 0), "1x3y0 5x2y1 1x1y2 1x2y0 5x1y1 1x0y2 5x1y0 2x0y1 5x0y0");
    }

    private static void promise6() {
        CurveMeets x = with("field 13;curve a=x;curve b=y;");
        due("P", x.has(0), 13);
        due("CURVES", x.has(1), 2);
        due("POINTS", x.has(2), 183);
        due("ACTS", x.has(3), 0);
        due("below", x.has(-1), -1);
        due("above", x.has(4), -1);
        for (int k = 0; k < 25; k++) {
            x.move(1, 0, 0, 0, 1, 0);
            due("ACTS of " + k, x.has(3), Math.min(k + 1, 20));
        }
    }

    private static void promise7() {
        CurveMeets x = with("curve azmqbc=x;curve k=y;");
        int[] letters = {1, 26, 13, 17, 2, 3};
        for (int i = 0; i < 6; i++) {
            due("letter 0 " + i, x.letter(0, i), letters[i]);
            due("letter 1 " + i, x.letter(1, i), i == 0 ? 11 : 0);
        }
        due("letter 0 6", x.letter(0, 6), -1);
        due("letter 0 -1", x.letter(0, -1), -1);
        due("letter 2 0", x.letter(2, 0), -1);
        due("letter -1 0", x.letter(-1, 0), -1);
        due("made", x.make(0, 1, 0, 0), 2);
        due("letter of a made one", x.letter(2, 0), 0);
        due("its last", x.letter(2, 5), 0);
        due("its 6", x.letter(2, 6), -1);
        due("drop", x.drop(0), 1);
        due("the next comes up", x.letter(0, 0), 11);
        due("and the made one", x.letter(1, 0), 0);
    }

    private static void promise8() {
        CurveMeets x = with("curve a=3*x^4+2*x*y^2-5;");
        due("x^4", x.term(0, 4, 0), 3);
        due("x*y^2", x.term(0, 1, 2), 2);
        due("y^4", x.term(0, 0, 4), 0);
        due("1", x.term(0, 0, 0), 2);
        due("x^4*y", x.term(0, 4, 1), -1);
        due("x^5", x.term(0, 5, 0), -1);
        due("x^-1", x.term(0, -1, 0), -1);
        due("y^-1", x.term(0, 4, -1), -1);
        due("great", x.term(0, Integer.MAX_VALUE, Integer.MAX_VALUE), -1);
        due("no CURVE", x.term(1, 0, 0), -1);
        due("below", x.term(-1, 0, 0), -1);
    }

    private static void promise9() {
        CurveMeets x = with("curve a=x;curve b=x^2*y^2+x;curve c=y^3-x*x*x;");
        due("line", x.degree(0), 1);
        due("quartic", x.degree(1), 4);
        due("cubic", x.degree(2), 3);
        due("none", x.degree(3), -1);
        due("below", x.degree(-1), -1);
    }

    private static void promise10() {
        CurveMeets x = with("field 5;curve a=x^2+3*x*y+2*y+1;curve b=y-2;");
        due("at 0 0", x.value(0, 0), 1);
        due("at 2 3", x.value(0, 13), 4);
        due("at 4 1", x.value(0, 21), 1);
        due("at 1:0:0", x.value(0, 25), 1);
        due("at 1:3:0", x.value(0, 28), 0);
        due("at 0:1:0", x.value(0, 30), 0);
        due("line at 1:4:0", x.value(1, 29), 4);
        due("line at 0:1:0", x.value(1, 30), 1);
        due("no POINT", x.value(0, 31), -1);
        due("below", x.value(0, -1), -1);
        due("no CURVE", x.value(2, 0), -1);
    }

    private static void promise11() {
        CurveMeets x = with("field 3;curve a=y-x^2;curve b=x^2+1;curve c=x^2-x*y+y^2-y;");
        String got = "";
        for (int k = -2; k < 5; k++) {
            got += x.point(0, k) + " ";
        }
        alike("parabola", got, "-1 4 0 4 7 12 -1 ");
        due("imaginary lines", x.point(1, -1), 1);
        due("meet far", x.point(1, 0), 12);
        due("no CURVE", x.point(3, -1), -1);
        due("k too great", x.point(0, Integer.MAX_VALUE), -1);
        due("below", x.point(0, Integer.MIN_VALUE), -1);
    }

    private static void promise12() {
        CurveMeets x = with("curve a=y^2-x^3-x^2;curve b=x^3-y^4;curve c=x*y*(x-y)*(x+y);");
        due("node", x.order(0, 0), 2);
        due("triple", x.order(1, 0), 3);
        due("four lines", x.order(2, 0), 4);
        due("plain", x.order(0, 6 * 7), 1);
        due("not on it", x.order(0, 1), 0);
        due("far", x.order(0, 56), 1);
        due("far, triple", x.order(1, 49), 1);
        due("no POINT", x.order(0, 57), -1);
        due("no CURVE", x.order(3, 0), -1);
        due("below", x.order(0, -1), -1);
    }

    private static void promise13() {
        CurveMeets x = with("curve a=x^2*y+3*y-1;");
        int near = 2 * 7 + 3;
        due("near 1", x.local(0, near, 0, 0), 6);
        due("near u", x.local(0, near, 1, 0), 5);
        due("near v", x.local(0, near, 0, 1), 0);
        due("near uu", x.local(0, near, 2, 0), 3);
        due("near uv", x.local(0, near, 1, 1), 4);
        due("near uuv", x.local(0, near, 2, 1), 1);
        // At 1 : 2 : 0 the FORM x x y + 3 y z z - z z z is (2 + u) + 3 (2 + u) v v - v v v.
        due("far 1", x.local(0, 51, 0, 0), 2);
        due("far u", x.local(0, 51, 1, 0), 1);
        due("far vv", x.local(0, 51, 0, 2), 6);
        due("far uvv", x.local(0, 51, 1, 2), 3);
        due("far vvv", x.local(0, 51, 0, 3), 6);
        // At 0 : 1 : 0 it is u u + 3 v v - v v v.
        due("last uu", x.local(0, 56, 2, 0), 1);
        due("last vv", x.local(0, 56, 0, 2), 3);
        due("last vvv", x.local(0, 56, 0, 3), 6);
        due("i below", x.local(0, 0, -1, 0), -1);
        due("j below", x.local(0, 0, 0, -1), -1);
        due("above", x.local(0, 0, 3, 2), -1);
        due("great", x.local(0, 0, 2147483647, 2), -1);
        due("four", x.local(0, 0, 2, 2), 0);
        due("no POINT", x.local(0, 57, 0, 0), -1);
        due("no CURVE", x.local(1, 0, 0, 0), -1);
    }

    private static void promise14() {
        CurveMeets x = with("curve a=y^2-x^2*(x+1);curve b=(x-1)*(x+1)*(y-1)*y;curve c=y-x^3;curve d=(x-y)^2;");
        due("node", x.singular(0, 0), 0);
        due("only it", x.singular(0, -1), 1);
        due("no second", x.singular(0, 1), -1);
        String got = "";
        for (int k = -2; k < 7; k++) {
            got += x.singular(1, k) + " ";
        }
        // (1, 0), (1, 1), (6, 0), (6, 1), 1 : 0 : 0, 0 : 1 : 0.
        alike("four lines", got, "-1 6 7 8 42 43 49 56 -1 ");
        due("cusp far", x.singular(2, 0), 56);
        due("a line twice", x.singular(3, -1), 8);
        due("no CURVE", x.singular(4, -1), -1);
    }

    private static void promise15() {
        CurveMeets x = with("curve a=(y-2*x)^2*(y+x)*x;curve b=y^2-3*x^2+x^3;curve c=x^2-x*y^2;");
        int[] ways = {2, 6, 7};
        int[] often = {2, 1, 1};
        due("how many", x.tangent(0, 0, -1, 0), 3);
        due("together", x.tangent(0, 0, -1, 1), 4);
        for (int k = 0; k < 3; k++) {
            due("way " + k, x.tangent(0, 0, k, 0), ways[k]);
            due("often " + k, x.tangent(0, 0, k, 1), often[k]);
        }
        due("no fourth", x.tangent(0, 0, 3, 0), -1);
        due("k below", x.tangent(0, 0, -2, 0), -1);
        due("other", x.tangent(0, 0, 0, 2), -1);
        due("other below", x.tangent(0, 0, -1, -1), -1);
        due("none of these numbers", x.tangent(1, 0, -1, 0), 0);
        due("together none", x.tangent(1, 0, -1, 1), 0);
        due("no first", x.tangent(1, 0, 0, 0), -1);
        due("like 0 and 1", x.tangent(2, 0, 0, 0), 7);
        due("twice", x.tangent(2, 0, 0, 1), 2);
        due("not on it", x.tangent(2, 8 + 7, -1, 0), -1);
        due("no POINT", x.tangent(2, 57, -1, 0), -1);
        due("no CURVE", x.tangent(3, 0, -1, 0), -1);
    }

    private static void promise16() {
        CurveMeets x = with("curve a=y-x^2;curve b=y-x^3;curve c=y-x^4;curve d=x+2*y;curve e=y+y^2;curve f=x*y;");
        due("parabola", x.bend(0, 0), 2);
        due("cubic", x.bend(1, 0), 3);
        due("cubic at 1", x.bend(1, 8), 2);
        due("quartic", x.bend(2, 0), 4);
        due("line", x.bend(3, 0), -2);
        due("line far", x.bend(3, 49 + 3), -2);
        due("holds its tangent", x.bend(4, 0), -2);
        due("order 2", x.bend(5, 0), -1);
        due("order 0", x.bend(0, 1), -1);
        due("far", x.bend(0, 56), 2);
        due("no POINT", x.bend(0, 57), -1);
        due("no CURVE", x.bend(6, 0), -1);
        CurveMeets y = with("curve a=x-y^3;curve b=x+y+y^3;");
        due("tangent like 0 and 1", y.bend(0, 0), 3);
        due("tangent aslant", y.bend(1, 0), 3);
    }

    private static void promise17() {
        CurveMeets x = with("curve a=y-x^3;curve b=y-1;curve c=y-x^2;curve d=x*y;");
        due("cubic", x.flex(0, -1), 1);
        due("at 0", x.flex(0, 0), 0);
        due("no second", x.flex(0, 1), -1);
        due("line", x.flex(1, -1), 8);
        due("its last", x.flex(1, 7), 49);
        due("conic", x.flex(2, -1), 0);
        due("two lines without their meeting", x.flex(3, -1), 14);
        due("the first", x.flex(3, 0), 1);
        due("no CURVE", x.flex(4, -1), -1);
        due("k below", x.flex(1, -2), -1);
    }

    private static void promise18() {
        CurveMeets x = with("curve a=x;curve b=y-x^2;curve c=y^2-x^3-1;curve d=y^2-x^3;curve e=x^4+y^4-2;"
            + "curve f=x*y*(x-1)*(y-1);");
        int[] genus = {0, 0, 1, 0, 3, -3};
        for (int k = 0; k < 6; k++) {
            due("genus " + k, x.genus(k), genus[k]);
        }
        due("no CURVE", x.genus(6), -100);
        due("below", x.genus(-1), -100);
        CurveMeets y = with("curve a=(x-y)^4;");
        // 3 less 4 times 3 by 2 at each of 8 POINTS.
        due("a line four times", y.genus(0), -45);
    }

    private static void promise19() {
        CurveMeets x = with("curve a=(x+y)^2*(x-1);curve b=(x+y)*(x^2+y);curve c=y;curve d=3*(x+y)^2;");
        due("one shared", x.common(0, 1), 1);
        due("none shared", x.common(0, 2), 0);
        due("twice shared", x.common(0, 3), 2);
        due("one with itself", x.common(0, 0), 3);
        due("the other way", x.common(3, 1), 1);
        due("no CURVE", x.common(0, 4), -1);
        due("below", x.common(-1, 0), -1);
    }

    private static void promise20() {
        CurveMeets x = with("curve a=(2*y+3*x+1)*(x-1);curve b=(4*y+6*x+2)*(x^2+y);curve c=y;curve d=2*y^2-4;");
        // 3 x + 2 y + 1 by 3.
        due("x", x.commonTerm(0, 1, 1, 0), 1);
        due("y", x.commonTerm(0, 1, 0, 1), 3);
        due("1", x.commonTerm(0, 1, 0, 0), 5);
        due("xx", x.commonTerm(0, 1, 2, 0), 0);
        due("none: 1", x.commonTerm(0, 2, 0, 0), 1);
        due("none: x", x.commonTerm(0, 2, 1, 0), 0);
        due("the same: yy", x.commonTerm(3, 3, 0, 2), 1);
        due("the same: 1", x.commonTerm(3, 3, 0, 0), 5);
        due("i below", x.commonTerm(0, 1, -1, 0), -1);
        due("above", x.commonTerm(0, 1, 2, 3), -1);
        due("no CURVE", x.commonTerm(0, 4, 0, 0), -1);
    }

    private static void promise21() {
        CurveMeets x = with("curve a=y^2-x^3;curve b=y;curve c=x;curve d=y^2-2*x^3;curve e=y*(x-1);curve f=(x^2+y^2)^2+3*x^2*y-y^3;");
        due("cusp, its tangent", x.times(0, 1, 0), 3);
        due("cusp, another line", x.times(0, 2, 0), 2);
        due("two cusps", x.times(0, 3, 0), 6);
        due("clover", x.times(0, 5, 0), 7);
        due("far", x.times(0, 2, 56), 1);
        due("one not on it", x.times(1, 2, 1), 0);
        due("shared there", x.times(1, 4, 0), -2);
        due("shared far", x.times(1, 4, 49), -2);
        due("shared elsewhere", x.times(1, 4, 56), 0);
        due("with itself", x.times(0, 0, 0), -2);
        due("with itself, not on it", x.times(0, 0, 1), 0);
        due("no POINT", x.times(0, 1, 57), -1);
        due("no CURVE", x.times(0, 6, 0), -1);
        due("below", x.times(-1, 0, 0), -1);
        CurveMeets y = with("curve a=y-x^4;curve b=(y-x^4)*1+y^4;");
        due("sixteen", y.times(0, 1, 0), 16);
    }

    private static void promise22() {
        CurveMeets x = with("curve a=y^2-x^3;curve b=y;curve c=y-x;");
        // y^2 - x^3, y: SWAP, SPLIT (3), END as 1 is left.
        int[] often = {1, 1, 1, 0};
        for (int kind = 0; kind < 4; kind++) {
            due("kind " + kind, x.rules(0, 1, 0, kind), often[kind]);
        }
        due("kind 4", x.rules(0, 1, 0, 4), -1);
        due("kind -1", x.rules(0, 1, 0, -1), -1);
        due("without bound", x.rules(0, 0, 0, 0), -1);
        due("not on one", x.rules(0, 1, 1, 0), 1);
        due("not on one: SPLIT", x.rules(0, 1, 1, 1), 0);
        due("no POINT", x.rules(0, 1, 57, 0), -1);
        due("no CURVE", x.rules(0, 3, 0, 0), -1);
        // v - u, v - u again by a CUT: u^3 goes by u^2, u.
        due("cuts", x.rules(2, 0, 0, 3), 2);
    }

    private static void promise23() {
        CurveMeets x = with("curve a=y-x;curve b=y^2-x^3;curve c=y;");
        String got = "";
        for (int k = -1; k < 8; k++) {
            got += x.rule(0, 1, 0, k) + " ";
        }
        // v - u, v^2 - u^3: a CUT, so that G is v^2 - u^2 v; SWAP; SPLIT (1), so that F is v - u^2;
        // SWAP; a CUT, so that G is v - u v; SWAP; SPLIT (1), so that F is 1 - u; END.
        alike("rule by rule", got, "-1 3 2 1 2 3 2 1 0 ");
        due("behind its end", x.rule(0, 1, 0, 8), -1);
        due("times", x.times(0, 1, 0), 2);
        due("split at once", x.rule(2, 1, 0, 0), 1);
        due("without bound", x.rule(0, 0, 0, 0), -1);
        due("no POINT", x.rule(0, 1, -1, 0), -1);
        due("no CURVE", x.rule(0, 3, 0, 0), -1);
        due("k below", x.rule(0, 1, 0, Integer.MIN_VALUE), -1);
    }

    private static void promise24() {
        CurveMeets x = with("curve a=y^2-x^3;curve b=y;curve c=x;curve d=y^2-2*x^3;curve e=y*(x-1);");
        due("cusp, its tangent", x.size(0, 1, 0), 3);
        due("two cusps", x.size(0, 3, 0), 6);
        due("far", x.size(0, 2, 56), 1);
        due("not on one", x.size(1, 2, 1), 0);
        // All below 17 by one line: 17; by the cusp: 2 in each of the steps but the first.
        due("shared there", x.size(1, 4, 0), 17);
        due("with itself", x.size(0, 0, 0), 33);
        due("no POINT", x.size(0, 1, 57), -1);
        due("no CURVE", x.size(5, 0, 0), -1);
    }

    private static void promise25() {
        CurveMeets x = with("curve a=y-x^2;curve b=y*(y-1);curve c=(y-x^2)*x;curve d=y-3;");
        due("how many", x.meet(0, 1, -1, 0), 3);
        due("together", x.meet(0, 1, -1, 1), 4);
        int[] points = {0, 8, 43};
        int[] times = {2, 1, 1};
        for (int k = 0; k < 3; k++) {
            due("point " + k, x.meet(0, 1, k, 0), points[k]);
            due("times " + k, x.meet(0, 1, k, 1), times[k]);
        }
        due("no fourth", x.meet(0, 1, 3, 0), -1);
        due("no fourth's times", x.meet(0, 1, 3, 1), -1);
        due("other", x.meet(0, 1, 0, 2), -1);
        due("other below", x.meet(0, 1, -1, -1), -1);
        due("k below", x.meet(0, 1, -2, 0), -1);
        due("shared", x.meet(0, 2, -1, 0), 8);
        due("shared together", x.meet(0, 2, -1, 1), -2);
        due("shared at one", x.meet(0, 2, 1, 1), -2);
        due("never near", x.meet(0, 3, -1, 0), 0);
        due("nothing together", x.meet(0, 3, -1, 1), 0);
        due("no CURVE", x.meet(0, 4, -1, 0), -1);
    }

    private static void promise26() {
        CurveMeets x = with("curve a=y-x^2;curve b=x*y-1;curve c=x^4+y^4-1;curve d=(y-x^2)*x;");
        String got = "";
        for (int d = -1; d <= 4; d++) {
            got += x.parts(0, 1, d) + " ";
        }
        alike("two conics", got, "-1 1 3 4 4 4 ");
        due("conic and quartic", x.parts(0, 2, 24), 8);
        due("conic and quartic, 4", x.parts(0, 2, 4), 8);
        due("shared conic, 3", x.parts(0, 3, 3), 7);
        due("shared conic, 24", x.parts(0, 3, 24), 49);
        due("with itself, 1", x.parts(2, 2, 1), 3);
        due("with itself, 24", x.parts(2, 2, 24), 94);
        due("25", x.parts(0, 1, 25), -1);
        due("no CURVE", x.parts(0, 4, 0), -1);
        due("below", x.parts(-1, 0, 0), -1);
    }

    private static void promise27() {
        CurveMeets x = with("curve a=y-x^2;curve b=x-1;curve c=y^2-3*x^4+1;curve d=(y-x^2)*x;curve e=x^2+y^2+1;");
        int[] line = {2, 1, 1, 1, 1};
        for (int what = 0; what < 5; what++) {
            due("conic, line " + what, x.total(0, 1, what), line[what]);
        }
        due("other", x.total(0, 1, 5), -1);
        due("below", x.total(0, 1, -1), -1);
        due("shared", x.total(0, 3, 0), -1);
        due("with itself", x.total(0, 0, 1), -1);
        due("no CURVE", x.total(0, 5, 0), -1);
        // x^4 (1 less 3) + 1: four POINTS near, all told 8, so 4 are at 0 : 1 : 0.
        due("near, told or not", x.total(0, 2, 1), 4);
        due("far", x.total(0, 2, 2), 4);
        due("far by TIMES", x.total(0, 2, 4), 4);
        due("near not told: x x + y y + 1, x less 1", x.total(4, 1, 1), 2);
        due("their TIMES", x.total(4, 1, 3), 0 + 2 * squares(7, -2));
    }

    /** 1 if a number is a square modulo p. */
    private static int squares(int p, int number) {
        for (int k = 1; k < p; k++) {
            if (Math.floorMod(k * k - number, p) == 0) {
                return 1;
            }
        }
        return 0;
    }

    private static void promise28() {
        CurveMeets x = with("curve a=y-x^2;curve b=y;curve c=x;curve d=y-1;curve e=x*y;");
        due("four at 0", x.knot(0, 0), 4);
        due("shared", x.knot(0, 1), -2);
        due("drop", x.drop(4), 2);
        due("three at 0", x.knot(0, 0), 3);
        // 2 of the parabola and its tangent, 1, 1.
        due("together", x.knot(0, 1), 4);
        due("one", x.knot(2 * 7, 0), 1);
        due("one together", x.knot(2 * 7, 1), 0);
        due("none", x.knot(2 * 7 + 6, 0), 0);
        due("far", x.knot(49, 0), 2);
        due("far together", x.knot(49, 1), 1);
        due("no POINT", x.knot(57, 0), -1);
        due("below", x.knot(-1, 1), -1);
        due("other", x.knot(0, 2), -1);
        due("two like ones", x.make(1, 1, 2, 0), 4);
        due("count as two", x.knot(14, 0), 2);
        due("that share all", x.knot(14, 1), -2);
    }

    private static void promise29() {
        CurveMeets x = with("curve a=y*(y-1);curve b=y-x^2;curve c=y-3;curve d=y*(x-2);curve e=y*x^2-x^2;curve f=x*y;");
        due("greatest", x.most(1, 0, 0), 2);
        due("where", x.most(1, 0, 1), 0);
        due("none", x.most(1, 2, 0), 0);
        due("nowhere", x.most(1, 2, 1), -1);
        due("shared", x.most(0, 3, 0), -2);
        due("the first without bound", x.most(0, 3, 1), 0);
        due("other", x.most(0, 1, 2), -1);
        due("below", x.most(0, 1, -1), -1);
        due("no CURVE", x.most(0, 6, 0), -1);
        // y (y - 1) and x x (y - 1): (0, 0) twice, then y = 1 without bound from (0, 1) on.
        due("first without bound behind others", x.most(0, 4, 1), 1);
        CurveMeets y = with("curve a=x*(x-1);curve b=y*(y-1);");
        due("all alike", y.most(0, 1, 0), 1);
        due("the first of them", y.most(0, 1, 1), 0);
        CurveMeets z = with("curve a=(y-x^2)*1;curve b=y-2*x+1;curve c=x-2;");
        due("later one", z.most(0, 1, 0), 2);
        due("at 1 1", z.most(0, 1, 1), 8);
    }

    private static void promise30() {
        CurveMeets x = with("curve a=x^2+y;curve b=y-1;");
        due("x to y + 3, y to 2 x", x.move(0, 1, 3, 2, 0, 0), true);
        alike("first", terms(x, 0), "1x0y2 2x1y0 6x0y1 2x0y0");
        alike("second", terms(x, 1), "2x1y0 6x0y0");
        due("names stay", x.letter(1, 0), 2);
        due("not to be undone", x.move(1, 2, 0, 4, 8, 0), false);
        due("0 modulo 7", x.move(7, 0, 0, 0, 1, 0), false);
        due("refused", x.status(2), 2);
        due("one ACT", x.has(3), 1);
        due("numbers below 0", x.move(-1, 0, -8, 0, 2147483647, Integer.MIN_VALUE), true);
        // y becomes y - 2, x becomes - x - 1.
        alike("second then", terms(x, 1), "5x1y0 4x0y0");
        CurveMeets none = new CurveMeets();
        due("without CURVES", none.move(1, 0, 0, 0, 1, 0), true);
        due("an ACT all the same", none.has(3), 1);
    }

    private static void promise31() {
        CurveMeets x = with("curve a=y-x^2+3;");
        // The POINT q with q's x + 1 = 3, q's y * 2 = 5: (2, 6).
        due("near", x.moved(3 * 7 + 5, 1, 0, 1, 0, 2, 0), 2 * 7 + 6);
        // Ways: 1 : 3 comes from 1 : 5, as 2 times 5 is 3.
        due("far", x.moved(49 + 3, 1, 0, 1, 0, 2, 4), 49 + 5);
        due("last, turned", x.moved(56, 0, 1, 3, 1, 0, 4), 49);
        due("to the last", x.moved(49, 0, 1, 3, 1, 0, 4), 56);
        due("can't be", x.moved(0, 1, 1, 0, 1, 1, 0), -1);
        due("not refused", x.status(2), 0);
        due("no POINT", x.moved(57, 1, 0, 0, 0, 1, 0), -1);
        due("below", x.moved(-1, 1, 0, 0, 0, 1, 0), -1);
        boolean[] on = new boolean[57];
        for (int k = 0; k < x.point(0, -1); k++) {
            on[x.moved(x.point(0, k), 2, 3, 1, -1, 4, 5)] = true;
        }
        due("nothing moved yet", x.has(3), 0);
        due("now", x.move(2, 3, 1, -1, 4, 5), true);
        for (int q = 0; q < 57; q++) {
            due("on it " + q, x.value(0, q) == 0, on[q]);
        }
    }

    private static void promise32() {
        CurveMeets x = with("curve a=x+y;curve b=y-x^2;curve c=x*y^3+y;");
        due("product", x.make(0, 1, 0, 0), 3);
        alike("its terms", terms(x, 3), "6x3y0 6x2y1 1x1y1 1x0y2");
        due("DEGREE 6", x.make(2, 1, 0, 0), -1);
        due("mixed", x.make(1, 0, 1, -2), 4);
        alike("its terms", terms(x, 4), "6x2y0 5x1y0 6x0y1");
        due("comes to 0", x.make(1, 1, 1, 6), -1);
        due("COMMON PART", x.make(3, 1, 2, 0), 5);
        alike("its terms", terms(x, 5), "1x2y0 6x0y1");
        due("there are 6", x.make(0, 0, 1, 0), -1);
        due("refused", x.status(3), 3);
        due("three ACTS", x.has(3), 3);
        lines();
        derivatives();
    }

    private static void lines() {
        CurveMeets x = with("field 5;curve a=y-x^2;curve b=x^2-x*y^2;curve c=x*y-1;curve d=y-x^3;");
        // Through (1, 2) and (2, 4): y = 2 x.
        due("line", x.make(7, 14, 3, 0), 4);
        alike("aslant", terms(x, 4), "1x1y0 2x0y1");
        due("undo", x.undo(), true);
        due("through (0, 3) and 1 : 0 : 0", x.make(3, 25, 3, 9), 4);
        alike("across", terms(x, 4), "1x0y1 2x0y0");
        due("through (4, 1) and 0 : 1 : 0", x.make(30, 21, 3, 0), 5);
        alike("upright", terms(x, 5), "1x1y0 1x0y0");
        due("drop", x.drop(5), 1);
        due("drop", x.drop(4), 1);
        due("like POINTS", x.make(7, 7, 3, 0), -1);
        due("z = 0", x.make(25, 30, 3, 0), -1);
        due("no POINT", x.make(7, 31, 3, 0), -1);
        due("below", x.make(-1, 7, 3, 0), -1);
        // At (2, 4) the parabola has y = 4 x + 1.
        due("tangent", x.make(0, 14, 4, 0), 4);
        alike("its terms", terms(x, 4), "1x1y0 1x0y1 4x0y0");
        due("drop", x.drop(4), 1);
        due("ORDER 2", x.make(1, 0, 4, 0), -1);
        due("not on it", x.make(0, 1, 4, 0), -1);
        due("z = 0 is the tangent", x.make(0, 30, 4, 0), -1);
        due("far: x y = 1 at 0 : 1 : 0", x.make(2, 30, 4, 0), 4);
        alike("x = 0", terms(x, 4), "1x1y0");
        due("far: at 1 : 0 : 0", x.make(2, 25, 4, 0), 5);
        alike("y = 0", terms(x, 5), "1x0y1");
        due("refused", x.status(3), 7);
    }

    private static void derivatives() {
        CurveMeets x = with("field 3;curve a=x^3+x^2*y+y;curve b=x+y;");
        due("by x", x.make(0, 0, 5, 0), 2);
        alike("its terms", terms(x, 2), "2x1y1");
        due("by y", x.make(0, 1, 5, 0), 3);
        alike("its terms", terms(x, 3), "1x2y0 1x0y0");
        due("by none", x.make(0, 2, 5, 0), -1);
        due("by below", x.make(0, -1, 5, 0), -1);
        due("DEGREE 0", x.make(1, 0, 5, 0), -1);
        due("how 6", x.make(0, 1, 6, 0), -1);
        due("how -1", x.make(0, 1, -1, 0), -1);
        due("no CURVE", x.make(4, 0, 5, 0), -1);
        for (int how = 0; how < 3; how++) {
            due("no first CURVE " + how, x.make(4, 0, how, 1), -1);
            due("no second CURVE " + how, x.make(0, 4, how, 1), -1);
        }
        due("none shared", x.make(0, 1, 2, 0), -1);
        due("refused", x.status(3), 13);
    }

    private static void promise33() {
        CurveMeets x = with("curve a=x;curve bb=x^2+y;curve c=y^3;");
        due("drop 3", x.drop(3), -1);
        due("drop -1", x.drop(-1), -1);
        due("refused", x.status(3), 2);
        due("drop 1", x.drop(1), 2);
        due("two are left", x.has(1), 2);
        due("one less", x.degree(1), 3);
        due("its name", x.letter(1, 0), 3);
        due("an ACT", x.has(3), 1);
        due("drop the last", x.drop(1), 3);
        due("none behind", x.degree(1), -1);
        due("drop the first", x.drop(0), 1);
        due("none are left", x.drop(0), -1);
    }

    private static void promise34() {
        CurveMeets x = with("curve a=x;curve bb=x^2+y;");
        due("none yet", x.undo(), false);
        due("refused", x.status(4), 1);
        due("move", x.move(1, 1, 0, 0, 1, 1), true);
        due("drop", x.drop(0), 1);
        due("make", x.make(0, 0, 1, 1), 1);
        due("refused make is no ACT", x.make(9, 9, 9, 9), -1);
        due("undo the making", x.undo(), true);
        due("one is left", x.has(1), 1);
        due("undo the drop", x.undo(), true);
        alike("it is back", terms(x, 0) + ", " + terms(x, 1), "1x1y0 1x0y1, 1x2y0 2x1y1 1x0y2 1x0y1 1x0y0");
        due("with its name", x.letter(1, 1), 2);
        due("undo the MOVE", x.undo(), true);
        alike("as told", terms(x, 0) + ", " + terms(x, 1), "1x1y0, 1x2y0 1x0y1");
        due("no more", x.undo(), false);
        due("what was refused stays so", x.status(3), 1);
        for (int k = 0; k < 23; k++) {
            due("move on", x.move(1, 0, 1, 0, 1, 0), true);
        }
        for (int k = 0; k < 20; k++) {
            due("undo " + k, x.undo(), true);
        }
        due("not the 21st", x.undo(), false);
        alike("three stay", terms(x, 0), "1x1y0 3x0y0");
    }

    private static void promise35() {
        CurveMeets x = new CurveMeets();
        x.end(1);
        x.end(-1);
        x.feed(0x24242424, 0, 0, 0, 0);
        x.curves();
        x.move(0, 0, 0, 0, 0, 0);
        x.make(0, 0, 0, 0);
        x.drop(0);
        x.undo();
        x.undo();
        x.undo();
        int[] refused = {2, 1, 1, 2, 3};
        for (int what = 0; what < 5; what++) {
            due("status " + what, x.status(what), refused[what]);
        }
        due("status 5", x.status(5), -1);
        due("status -1", x.status(-1), -1);
        due("NONE", CurveMeets.NONE, -1);
    }

    public static void main(String[] args) {
        promise1();
        promise2();
        promise3();
        promise4();
        promise5();
        promise6();
        promise7();
        promise8();
        promise9();
        promise10();
        promise11();
        promise12();
        promise13();
        promise14();
        promise15();
        promise16();
        promise17();
        promise18();
        promise19();
        promise20();
        promise21();
        promise22();
        promise23();
        promise24();
        promise25();
        promise26();
        promise27();
        promise28();
        promise29();
        promise30();
        promise31();
        promise32();
        promise33();
        promise34();
        promise35();
        close();
    }
}
