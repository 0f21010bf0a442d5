/** The sentences on texts and the tape (Terms I, promises 1 to 5) that name a boundary: a test for each. */
public final class TextEdgesTest extends Answers {
    private static final String SIX =
        "curve a=x;curve b=x;curve c=x;curve d=x;curve e=x;curve f=x;";

    private static boolean isPrime(int n) {
        int divisors = 0;
        for (int k = 1; k <= n; k++) {
            divisors += n % k == 0 ? 1 : 0;
        }
        return divisors == 2;
    }

    // ---- statements

    private static void statements() {
        for (String text : new String[] {"", " ", "\n", " \n \n"}) {
            CurveMeets x = new CurveMeets();
            due("no statement", read(x, text), 0);
            due("its fault", x.fault(0), 0);
        }
        due("one", with("curve a=x;").has(1), 1);
        faulty("curve a=x", 1, 9);
        faulty("curve a=x;;", 1, 10);
        faulty(";", 1, 0);
        faulty("curve a=x,", 1, 9);
    }

    private static void fieldIsFirst() {
        due("told", with("field 5;curve a=x;").has(0), 5);
        due("told alone", with("field 5;").has(0), 5);
        due("not told", with("curve a=x;").has(0), 7);
        faulty("field 5;field 5;", 1, 8);
        faulty("curve a=x;field 5;", 1, 10);
        faulty("field 5", 1, 7);
    }

    private static void fieldIsPrime() {
        for (int n = 0; n <= 31; n++) {
            if (isPrime(n)) {
                due("field " + n, with("field " + n + ";").has(0), n);
            } else {
                faulty("field " + n + ";", 2, 6);
            }
        }
        for (int n = 32; n <= 70; n++) {
            faulty("field " + n + ";", 2, 6);
        }
        // Primes, but too great; numbers that would wrap around to one that can be.
        String[] great = {"961", "65537", "2147483647", "2147483648", "4294967298", "4294967303",
            "18446744073709551618", "99999999999999999999999999999999999999999"};
        for (String number : great) {
            faulty("field " + number + ";", 2, 6);
        }
    }

    private static void sevenWithout() {
        CurveMeets x = with("field 31;");
        due("told", x.has(0), 31);
        read(x, "curve a=x;");
        due("without", x.has(0), 7);
        read(x, "field 2;");
        due("told again", x.has(0), 2);
        due("an empty text", x.curves(), 0);
        due("without", x.has(0), 7);
    }

    private static void sixCurves() {
        CurveMeets x = with(SIX);
        due("six", x.has(1), 6);
        due("from 0 on", x.degree(0), 1);
        due("to 5", x.degree(5), 1);
        due("no 6", x.degree(6), NONE);
        faulty(SIX + "curve g=x;", 4, 60);
    }

    // ---- names

    private static void lettersOfNames() {
        for (String name : new String[] {"a", "z", "m", "az", "abcxyz", "zzzzzz"}) {
            alike("NAME", name(with("curve " + name + "=x;"), 0), name);
        }
        for (String name : new String[] {"", "abcdefg", "abcdefghijklmnopqrstuvwxyz", "A", "Z", "1a", "`", "{", "_",
            "\u00e1"}) {
            faulty("curve " + name + "=x;", 1, 6);
        }
        for (String sign : new String[] {"`", "{", "A", "Z", "@", "[", "_", "\u00ff", "-"}) {
            faulty("curve a" + sign + "=x;", 1, 7);
        }
    }

    private static void wordsThatAreNoNames() {
        for (String name : new String[] {"field", "curve", "x", "y"}) {
            faulty("curve " + name + "=x;", 1, 6);
        }
        for (String name : new String[] {"fields", "fiel", "ield", "curves", "curv", "urve", "xx", "yy", "xy", "ax",
            "ya", "w", "z"}) {
            alike("NAME", name(with("curve " + name + "=x;"), 0), name);
        }
    }

    private static void takenNames() {
        faulty("curve a=x;curve a=y;", 3, 16);
        faulty("curve a=x;curve b=x;curve a=y;", 3, 26);
        faulty("curve abcdef=x;curve abcdef=y;", 3, 21);
        CurveMeets x = with("curve abcdef=x;curve abcdeg=x;curve abcde=x;curve a=x;curve b=x;curve ba=x;");
        due("names that are alike in part", x.has(1), 6);
        due("the NAMES that stood ahead of the text are free", read(x, "curve ba=x;curve abcdef=y;"), 2);
    }

    // ---- sums

    private static void sums() {
        alike("one", all(with("curve a=x;")), "field 7; a=1x1y0");
        alike("less one", all(with("curve a=-x;")), "field 7; a=6x1y0");
        alike("more", all(with("curve a=-x+y-2+x-x;")), "field 7; a=6x1y0 1x0y1 5x0y0");
        faulty("curve a=;", 1, 8);
        faulty("curve a=-;", 1, 9);
        faulty("curve a=+x;", 1, 8);
        faulty("curve a=--x;", 1, 9);
        faulty("curve a=x+;", 1, 10);
        faulty("curve a=x-;", 1, 10);
        faulty("curve a=x+-y;", 1, 10);
        faulty("curve a=x-+y;", 1, 10);
        faulty("curve a=(+x);", 1, 9);
    }

    private static void products() {
        alike("one", all(with("curve a=x;")), "field 7; a=1x1y0");
        alike("five", all(with("curve a=x*2*y*3*x;")), "field 7; a=6x2y1");
        faulty("curve a=*x;", 1, 8);
        faulty("curve a=x*;", 1, 10);
        faulty("curve a=x**y;", 1, 10);
        faulty("curve a=x*-y;", 1, 10);
        faulty("curve a=x(y);", 1, 9);
        faulty("curve a=(x)(y);", 1, 11);
        faulty("curve a=(x)y;", 1, 11);
    }

    private static void powers() {
        for (int n = 0; n <= 4; n++) {
            due("x^" + n, with("curve a=x^" + n + "*1+y^4;").term(0, n, 0), 1);
        }
        due("x^04", with("curve a=x^04;").degree(0), 4);
        due("x^000", with("curve a=x^000+y;").term(0, 0, 0), 1);
        due("5^4", with("curve a=5^4*x;").term(0, 1, 0), 625 % 7);
        faulty("curve a=x^5;", 2, 10);
        faulty("curve a=1^5*x;", 2, 10);
        faulty("curve a=0^5+x;", 2, 10);
        faulty("curve a=x^10;", 2, 10);
        faulty("curve a=x^2147483647;", 2, 10);
        faulty("curve a=x^2147483648;", 2, 10);
        faulty("curve a=x^4294967296;", 2, 10);
        faulty("curve a=x^18446744073709551617;", 2, 10);
        faulty("curve a=x^-1;", 1, 10);
        faulty("curve a=x^;", 1, 10);
        faulty("curve a=x^x;", 1, 10);
        faulty("curve a=x^(2);", 1, 10);
        faulty("curve a=x^2^2;", 1, 11);
        faulty("curve a=^2;", 1, 8);
    }

    private static void atoms() {
        alike("each", all(with("curve a=3*x*y*(2);")), "field 7; a=6x1y1");
        alike("in ( )", all(with("curve a=(-(x-(y)));")), "field 7; a=6x1y0 1x0y1");
        faulty("curve a=();", 1, 9);
        faulty("curve a=(x;", 1, 10);
        faulty("curve a=((x);", 1, 12);
        faulty("curve a=x);", 1, 9);
        faulty("curve a=(x));", 1, 11);
        faulty("curve a=z;", 1, 8);
        faulty("curve a=xy;", 1, 8);
        faulty("curve a=X;", 1, 8);
        faulty("curve a=curve;", 1, 8);
        faulty("curve b=x;curve a=b;", 1, 18);
        faulty("curve a=[x];", 1, 8);
    }

    // ---- what is reckoned

    private static int choose(int n, int k) {
        return k == 0 ? 1 : choose(n, k - 1) * (n - k + 1) / k;
    }

    private static void numbersWrapAround() {
        for (int p : PRIMES) {
            int last = p - 1;
            CurveMeets x = with("field " + p + ";curve a=" + last + "*x+x+y;curve b=-x+y;curve c=" + p + "*x+y;"
                + "curve d=" + last + "*" + last + "*x+y;curve e=(x+y+1)^4;curve f=2147483647*x-2147483647*y+y^2;");
            due("P less 1 and 1", x.term(0, 1, 0), 0);
            due("less 1", x.term(1, 1, 0), last);
            due("P", x.term(2, 1, 0), 0);
            due("P less 1 by itself", x.term(3, 1, 0), 1);
            due("a great one", x.term(5, 1, 0), 2147483647 % p);
            due("less a great one", x.term(5, 0, 1), Math.floorMod(-2147483647, p));
            for (int i = 0; i <= 4; i++) {
                for (int j = 0; j <= 4 - i; j++) {
                    due("(x+y+1)^4 at " + i + " " + j, x.term(4, i, j), choose(4, i) * choose(4 - i, j) % p);
                }
            }
            int rest = 2147483645 % p;
            CurveMeets y = with("field " + p + ";curve a=2147483645^3*x+y;curve b=2147483645*2147483645*x+y;");
            due("a power of a great one", y.term(0, 1, 0), rest * rest * rest % p);
            due("a product of great ones", y.term(1, 1, 0), rest * rest % p);
        }
    }

    private static void degrees() {
        CurveMeets x = with("curve a=x^2*y^2+x^3;curve b=x^4+6*x^4+y;curve c=x*y;curve d=y^3-x*y-1;curve e=7*y^4+x;");
        due("both together", x.degree(0), 4);
        due("what is 0 doesn't count", x.degree(1), 1);
        due("x*y", x.degree(2), 2);
        due("the greatest", x.degree(3), 3);
        due("7 is 0", x.degree(4), 1);
    }

    private static void nothingAboveFour() {
        alike("four", all(with("curve a=x^2*y^2;curve b=(x^2)^2;curve c=x*y*x*y*3;")),
            "field 7; a=1x2y2; b=1x4y0; c=3x2y2");
        faulty("curve a=x^4*y-x^4*y+x;", 4, 12);
        faulty("curve a=x^4*y*0+x;", 4, 12);
        faulty("curve a=(x^3*y^2)^0;", 4, 13);
        faulty("curve a=x-(y-(x^4*x));", 4, 18);
        alike("each TERM from 1 on", all(with("curve a=x^4+y^4-x^3*y;")), "field 7; a=1x4y0 6x3y1 1x0y4");
    }

    private static void whatComesToZero() {
        alike("0 ahead", all(with("curve a=0*x^4*y^4+y;")), "field 7; a=1x0y1");
        alike("0 behind four", all(with("curve a=x^4*0*y^4+y;")), "field 7; a=1x0y1");
        alike("7 is 0", all(with("curve a=7*x^4*y+y;")), "field 7; a=1x0y1");
        alike("a SUM that is 0", all(with("curve a=x^4*(x-x)*y^4+y;")), "field 7; a=1x0y1");
        alike("by 0 from four on", all(with("curve a=x^4*(y-y)+y;")), "field 7; a=1x0y1");
        alike("TERMS that go", all(with("curve a=(x^4-x^4+y)*x^3;")), "field 7; a=1x3y1");
        alike("a power of them", all(with("curve a=(x^4+6*x^4)^4+(x^3+6*x^3+y)^4;")), "field 7; a=1x0y4");
        alike("modulo 2", all(with("field 2;curve a=((x+y)^2+x^2+y^2+x)^4;")), "field 2; a=1x4y0");
        faulty("curve a=(x^4-x^4+y)*x^4;", 4, 20);
        faulty("curve a=(x^4-2*x^4+y)*x;", 4, 22);
    }

    private static void powersStepByStep() {
        alike("none: 1", all(with("curve a=x^0+x;curve b=0^0*x;curve c=(x-x)^0*x;curve d=(x^4+y)^0*x^4;")),
            "field 7; a=1x1y0 1x0y0; b=1x1y0; c=1x1y0; d=1x4y0");
        alike("one", all(with("curve a=(x^4)^1;curve b=(x+y)^1;")), "field 7; a=1x4y0; b=1x1y0 1x0y1");
        alike("two and four", all(with("curve a=(x^2+1)^2;curve b=(x-1)^4;")),
            "field 7; a=1x4y0 2x2y0 1x0y0; b=1x4y0 3x3y0 6x2y0 3x1y0 1x0y0");
        alike("of 0", all(with("curve a=0^4+(x-x)^3+x;")), "field 7; a=1x1y0");
        faulty("curve a=(x^2)^3;", 4, 8);
        faulty("curve a=(x^2*y)^2;", 4, 8);
        faulty("curve a=(x^4)^4;", 4, 8);
        faulty("curve a=(x*y)^3;", 4, 8);
    }

    private static void degreeOneAtLeast() {
        due("1", with("curve a=y;").degree(0), 1);
        faulty("curve a=3;", 5, 6);
        faulty("curve a=0;", 5, 6);
    }

    // ---- numbers, blanks, brackets

    private static void numbers() {
        due("the greatest", with("curve a=2147483647*x;").term(0, 1, 0), 2147483647 % 7);
        due("0 ahead", with("curve a=00000000000000000002147483647*x;").term(0, 1, 0), 2147483647 % 7);
        due("0", with("curve a=0+x;").term(0, 0, 0), 0);
        due("00", with("curve a=00+x;").term(0, 0, 0), 0);
        due("all ten digits", with("curve a=1234567890*x;").term(0, 1, 0), 1234567890 % 7);
        faulty("curve a=2147483648*x;", 2, 8);
        faulty("curve a=02147483648*x;", 2, 8);
        faulty("curve a=2147483650*x;", 2, 8);
        faulty("curve a=9999999999*x;", 2, 8);
        faulty("curve a=4294967297*x;", 2, 8);
        faulty("curve a=9223372036854775809*x;", 2, 8);
        faulty("curve a=18446744073709551617*x;", 2, 8);
        faulty("curve a=" + repeat("9", 900) + "*x;", 2, 8);
        due("900 times 0", with("curve a=" + repeat("0", 900) + "5*x;").term(0, 1, 0), 5);
        faulty("curve a=/;", 1, 8);
        faulty("curve a=:;", 1, 8);
        faulty("curve a=\u00b2;", 1, 8);
    }

    private static void blanks() {
        String spread = "@field@11@;@curve@ab@=@-@3@*@x@^@2@*@(@y@+@1@)@;@curve@c@=@x@;@";
        for (String blank : new String[] {" ", "\n", " \n ", "\n\n"}) {
            alike("blanks", all(with(spread.replace("@", blank))), "field 11; ab=8x2y1 8x2y0; c=1x1y0");
        }
        alike("as few as can be", all(with("field 11;curve ab=-3*x^2*(y+1);curve c=x;")),
            "field 11; ab=8x2y1 8x2y0; c=1x1y0");
        for (int sign : new int[] {0, 8, 9, 11, 12, 13, 14, 31, 33, 95, 127, 133, 160, 255}) {
            String no = String.valueOf((char) sign);
            faulty(no + "curve a=x;", 1, 0);
            faulty("curve" + no + "a=x;", 1, 5);
            faulty("curve a=x" + no + ";", 1, 9);
            faulty("curve a=x;" + no, 1, 10);
        }
        faulty("cur ve a=x;", 1, 0);
        faulty("curve a b=x;", 1, 8);
        faulty("field 1 1;", 2, 6);
        faulty("field 3 1;", 1, 8);
        faulty("curve a=1 2*x;", 1, 10);
    }

    private static void sideBySide() {
        faulty("field7;", 1, 5);
        faulty("field9;", 1, 5);
        faulty("curve7", 1, 5);
        faulty("curve a7=x;", 1, 7);
        faulty("curve a=2x;", 1, 9);
        faulty("curve a=x2;", 1, 9);
        faulty("curve a=x^2y;", 1, 11);
        faulty("curve a=x^2x^2;", 1, 11);
        faulty("curvea=x;", 1, 0);
        due("a blank is enough", with("field 7;curve a=x;").has(1), 1);
        due("a new line too", with("field\n7;curve\na=x;").has(1), 1);
        due("signs need none", with("curve a=(x)*2^2-(y);").has(1), 1);
    }

    private static void fortyOpen() {
        String open = repeat("(", 40);
        String shut = repeat(")", 40);
        due("40", with("curve a=" + open + "x" + shut + ";").degree(0), 1);
        faulty("curve a=" + open + "(x)" + shut + ";", 4, 48);
        faulty("curve a=" + open + " (", 4, 49);
        alike("40, and again 40", all(with("curve a=" + open + "x" + shut + "*" + open + "y" + shut + ";")),
            "field 7; a=1x1y1");
        alike("one goes, another comes", all(with("curve a=" + open + "x)*(y)-(1" + shut + ";")),
            "field 7; a=1x1y1 6x0y0");
        due("400 in all", with("curve a=" + repeat("(((((((((x)))))))))+", 10) + "x;").term(0, 1, 0), 11 % 7);
    }

    // ---- faults

    private static void leastPlace() {
        faulty("field 9;curve x=x$", 2, 6);
        faulty("curve a=x^5;curve a=0;$", 2, 10);
        faulty("curve a=0;curve b=x^5;", 5, 6);
        faulty("curve a=x;curve a=0;curve b=", 3, 16);
        faulty("curve a=x^4*y", 4, 12);
        faulty("curve a=x^4*y$", 4, 12);
        faulty("curve a=x^4*(y)$", 4, 12);
        faulty("curve a=x^4*y2147483648;", 4, 12);
        faulty("curve a=(x^2)^3*2147483648;", 4, 8);
        faulty("curve a=(x^2)^5;", 2, 14);
        faulty("curve a=x^4*y^5;", 2, 14);
        faulty("curve a=x^4*y^;", 1, 14);
        faulty("curve a=x^4*(y$);", 1, 14);
        faulty(SIX + "curve a=0;", 4, 60);
    }

    private static void firstKindAtOnePlace() {
        // 1 ahead of 2: a number too great where none may stand.
        faulty("99999999999", 1, 0);
        faulty("field 7 99999999999;", 1, 8);
        faulty("curve 99999999999=x;", 1, 6);
        faulty("curve a 99999999999=x;", 1, 8);
        faulty("curve a=x 99999999999;", 1, 10);
        faulty("curve a=x^2 99999999999;", 1, 12);
        // 1 ahead of 4: a 41st ( where none may stand, a word that is not quite curve.
        faulty("curve a=" + repeat("(", 40) + "x(", 1, 49);
        faulty(SIX + "curves", 1, 60);
        // 2 ahead of 4: a number that can't be has no DEGREE. 3 ahead of 5, both at a NAME.
        faulty("curve a=x^4*2147483648;", 2, 12);
        faulty("curve a=x;curve a=0;", 3, 16);
    }

    /** Behind a text each of all bytes: those that go on need more, those left out are told by other tests. */
    private static void goesOnWith(String text, String onwards, String leftOut) {
        for (int sign = 0; sign < 256; sign++) {
            if (leftOut.indexOf(sign) < 0) {
                int place = text.length() + (onwards.indexOf(sign) >= 0 ? 1 : 0);
                faulty(text + (char) sign, 1, place);
            }
        }
    }

    private static void firstByteThatCannotBe() {
        String digits = "0123456789";
        String letters = "abcdefghijklmnopqrstuvwxyz";
        goesOnWith("", "", " \n");
        goesOnWith("field", " \n", letters);
        goesOnWith("field ", "2357 \n", "014689");
        goesOnWith("field 3", "1 \n", "023456789;");
        goesOnWith("field 3;", "", " \n");
        goesOnWith("curve", " \n", letters);
        goesOnWith("curve ", letters.replaceAll("[xy]", "") + " \n", "");
        goesOnWith("curve a", letters + "= \n", "");
        goesOnWith("curve abcdef", "= \n", letters);
        goesOnWith("curve a=", digits + "xy(- \n", "");
        goesOnWith("curve a=-", digits + "xy( \n", "");
        goesOnWith("curve a=2", digits + "^*+- \n", ";");
        goesOnWith("curve a=x", "^*+- \n", ";" + letters);
        goesOnWith("curve a=x^", "01234 \n", "56789");
        goesOnWith("curve a=x^2", "*+- \n", ";" + digits);
        goesOnWith("curve a=x*", digits + "xy( \n", "");
        goesOnWith("curve a=x+", digits + "xy( \n", "");
        goesOnWith("curve a=(", digits + "xy(- \n", "");
        goesOnWith("curve a=(x", "^*+-) \n", letters);
        goesOnWith("curve a=(x)", "^*+- \n", ";");
        goesOnWith("curve a=x;", "", " \n");
    }

    private static void wholeWordsAndNumbers() {
        faulty("fiel", 1, 0);
        faulty("fieldd 7;", 1, 0);
        faulty("curv a=x;", 1, 0);
        faulty("curvey=x;", 1, 0);
        faulty("curve a=x;curved b=x;", 1, 10);
        faulty("curve a=xx;", 1, 8);
        faulty("curve a=yfield;", 1, 8);
        faulty("curve a=x+xyz;", 1, 10);
        faulty("curve a=x^xy;", 1, 10);
        faulty("curve a=(x) yes;", 1, 12);
        faulty("curve a=x 123;", 1, 10);
        faulty("123;", 1, 0);
        faulty("curve a=3 12;", 1, 10);
    }

    private static void namesThatCannotBe() {
        faulty("curve  abcdefg=x;", 1, 7);
        faulty("curve\n x=x;", 1, 7);
        faulty("curve  =x;", 1, 7);
        faulty("curve  12=x;", 1, 7);
        faulty("curve a=x;curve\nfield=x;", 1, 16);
    }

    private static void endsTooSoon() {
        String[] parts = {"field", " 11", ";", "curve", " abc", "=", "-", "(", "x", "^", "2", "+", "30", ")", "*", "y",
            ";", "curve", " d", "=", "x", "-", "1"};
        String text = "";
        for (String part : parts) {
            text += part;
            if (part.equals(";")) {
                due("fine", with(text + "\n ").fault(1), NONE);
                continue;
            }
            faulty(text, 1, text.length());
            faulty(text + " \n ", 1, text.length() + 3);
        }
    }

    private static void numbersThatCannotBe() {
        faulty("field  8;", 2, 7);
        faulty("field \n 10;", 2, 8);
        faulty("curve a=x^ 5;", 2, 11);
        faulty("curve a=x^  99;", 2, 12);
        faulty("curve a=x+ 2147483648;", 2, 11);
        faulty("curve a=(x)*(y-2147483648);", 2, 15);
    }

    private static void namesTakenAtFirstByte() {
        faulty("curve abc=x;curve  abc", 3, 19);
        faulty("curve abc=x;curve b=x;curve\nabc=y;", 3, 28);
    }

    private static void seventhCurve() {
        due("six", with(SIX + " ").has(1), 6);
        faulty(SIX + " curve g=x;", 4, 61);
        faulty(SIX + "curve", 4, 60);
        faulty(SIX + "curve7", 4, 60);
        faulty("field 5;" + SIX + "\ncurve x", 4, 69);
    }

    private static void bracketTooMany() {
        faulty("curve a=" + repeat("(", 41), 4, 48);
        faulty("curve a=" + repeat("( ", 41) + "x", 4, 88);
        faulty("curve a=x*" + repeat("(", 50) + "x", 4, 50);
        faulty("curve a=" + repeat("(", 20) + "x-" + repeat("(", 21), 4, 50);
    }

    private static void factorTooMuch() {
        faulty("curve a=x^4* y;", 4, 13);
        faulty("curve a=x^3*x^2;", 4, 12);
        faulty("curve a=x^2*y^2*(x+1);", 4, 16);
        faulty("curve a=(x^3+y)*x^2;", 4, 16);
        faulty("curve a=x*y*x*y*x*y;", 4, 16);
        faulty("curve a=y-x^4*2*x;", 4, 16);
        faulty("curve a=x^3*(y+x)*y;", 4, 18);
        faulty("curve a=(x^4*y);", 4, 13);
        faulty("curve a=x^3*(x*y)^1;", 4, 12);
        alike("four by numbers", all(with("curve a=x^4*3*y^0*(2);")), "field 7; a=6x4y0");
    }

    private static void powerTooMuch() {
        faulty("curve a=(x^3)^2;", 4, 8);
        faulty("curve a=2*(x*y+1)^4;", 4, 10);
        faulty("curve a=0*(x*y)^3;", 4, 10);
        faulty("curve a=x+ ( x*y )^ 3;", 4, 11);
        faulty("curve a=((x+y)^2)^3;", 4, 8);
        due("just not", with("curve a=((x+y)^2)^2;").degree(0), 4);
    }

    private static void flatCurves() {
        for (String flat : new String[] {"3", "0", "-1", "x-x", "7*x", "x^0", "(x-y)-x+y+1", "0*x", "(7*x)^2", "14"}) {
            faulty("curve a=" + flat + ";", 5, 6);
        }
        faulty("curve  abc=1;", 5, 7);
        faulty("curve a=x;curve b = 1 ;", 5, 16);
        faulty("field 2;curve a=2*x+1;", 5, 14);
    }

    private static void flatOnlyWithItsEnd() {
        faulty("curve a=3;$", 5, 6);
        faulty("curve a=3", 1, 9);
        faulty("curve a=3$;", 1, 9);
        faulty("curve a=0*x^5;", 2, 12);
        faulty("curve a=3+2147483648;", 2, 10);
        faulty("curve a=x^4*x-x^5;", 4, 12);
        faulty("curve a=0)", 1, 9);
        faulty("curve a=(0;", 1, 10);
        faulty("curve a=0 curve b=x;", 1, 10);
    }

    // ---- the first promises

    private static void feedInOrder() {
        CurveMeets x = new CurveMeets();
        due("twenty", x.feed(0x63757276, 0x65206162, 0x63646566, 0x3d782a79, 0x2d313b20), 20);
        due("forty", x.feed(0x63757276, 0x65206768, 0x3d792d78, 0x3b202020, 0x20202020), 40);
        due("read", x.curves(), 2);
        alike("the highest first", all(x), "field 7; abcdef=1x1y1 6x0y0; gh=6x1y0 1x0y1");
        // A byte of 128 and more (160 is a blank and 128), at each of the four places of a number.
        for (int k = 0; k < 4; k++) {
            int number = 0x20202020 | 0x80 << 8 * k;
            x.feed(0x20202020, 0x20202020, 0x20202020, 0x20202020, number);
            x.curves();
            due("place " + k, x.fault(1), 19 - k);
        }
    }

    private static void feedTooMuch() {
        CurveMeets x = new CurveMeets();
        for (int k = 1; k <= 50; k++) {
            due("feed " + k, x.feed(0x20202020, 0x20202020, 0x20202020, 0x20202020, 0x20202020), 20 * k);
        }
        due("none refused yet", x.status(0), 0);
        due("beyond", x.feed(0x24242424, 0x24242424, 0x24242424, 0x24242424, 0x24242424), NONE);
        due("refused", x.status(0), 1);
        due("what stands is left", x.end(1000), true);
        due("981", x.end(981), true);
        due("beyond by one", x.feed(0x24242424, 0x24242424, 0x24242424, 0x24242424, 0x24242424), NONE);
        due("nothing came", x.end(982), false);
        due("980", x.end(980), true);
        due("1000 just", x.feed(0x20202020, 0x20202020, 0x20202020, 0x20202020, 0x20202020), 1000);
        due("all blank", x.curves(), 0);
        due("refused in all", x.status(0), 3);
        due("the tape is empty again", x.feed(0, 0, 0, 0, 0), 20);
    }

    private static void wholeTape() {
        String text = "curve a=x" + repeat("+y-y", 247) + "+1;";
        due("a text of 1000", text.length(), 1000);
        alike("is read whole", all(with(text)), "field 7; a=1x1y0 1x0y0");
        faulty(text.substring(0, 999) + "$", 1, 999);
        faulty(text.substring(0, 999) + " ", 1, 1000);
    }

    private static void endOfTape() {
        CurveMeets x = new CurveMeets();
        tape(x, "curve a=x;");
        due("as many as it has", x.end(10), true);
        due("one more", x.end(11), false);
        due("far more", x.end(GREATEST), false);
        due("below 0", x.end(-1), false);
        due("far below", x.end(LEAST), false);
        due("refused", x.status(0), 4);
        due("the tape stays", x.curves(), 1);
        due("0 of none", x.end(0), true);
        due("1 of none", x.end(1), false);
    }

    private static void firstBytesAlone() {
        CurveMeets x = new CurveMeets();
        tape(x, "curve a=x;curve b=y;");
        due("cut", x.end(9), true);
        int[] five = five("^2-y;", 0, ' ');
        due("what comes stands behind", x.feed(five[0], five[1], five[2], five[3], five[4]), 29);
        due("one", x.curves(), 1);
        alike("it", all(x), "field 7; a=1x2y0 6x0y1");
        tape(x, "curve a=x;");
        due("none", x.end(0), true);
        due("no text", x.curves(), 0);
        // What stood behind the end does not count, whatever it would be.
        String[] cut = {"field 31;", "field 3", "field", "curve ab=x;", "curve a", "curve a=", "curve a=x^",
            "curve a=x"};
        int[] ends = {7, 6, 2, 7, 6, 8, 10, 8};
        int[] places = {7, 6, 0, 7, 6, 8, 10, 8};
        for (int k = 0; k < cut.length; k++) {
            CurveMeets y = new CurveMeets();
            tape(y, cut[k] + "2;");
            due("cut off", y.end(ends[k]), true);
            due("read", y.curves(), NONE);
            due("at its end", y.fault(0) * 100 + y.fault(1), 100 + places[k]);
        }
        tape(x, "curve a=x;");
        due("not undone by a longer end", x.end(5) && !x.end(10), true);
        due("read", x.curves(), NONE);
        due("at its end", x.fault(1), 5);
    }

    private static void tapeGoes() {
        CurveMeets x = new CurveMeets();
        due("read", read(x, "curve a=x;"), 1);
        due("gone", x.end(1), false);
        due("refused", read(x, "curve a=x;$"), NONE);
        due("gone too", x.end(1), false);
        due("what comes then is first", x.feed(0x24202020, 0, 0, 0, 0), 20);
        due("read", x.curves(), NONE);
        due("at 0", x.fault(1), 0);
        due("and an empty one", x.curves(), 0);
    }

    private static void allStays() {
        String[] texts = {"curve a=x;curve a=y;", "field 9;", "field 5;curve z=y;$", "curve q=x;curve r=0;",
            SIX + "curve", "curve a=x^4*x;", "curve"};
        for (String text : texts) {
            CurveMeets x = with("field 13;curve ab=x+5*y;curve c=y^2-x^3;");
            due("an ACT", x.move(1, 2, 3, 0, 1, 4), true);
            due("another", x.make(0, 0, 0, 0), 2);
            String stood = all(x);
            due("refused", read(x, text), NONE);
            due("how many", x.status(1), 1);
            alike("CURVES stay", all(x), stood);
            due("ACTS stay", x.has(3), 2);
            due("undo", x.undo() && x.undo(), true);
            alike("as told", all(x), "field 13; ab=1x1y0 5x0y1; c=12x3y0 1x0y2");
            due("refused again", read(x, text), NONE);
            due("how many", x.status(1), 2);
        }
    }

    private static void noActBehindAText() {
        CurveMeets x = with("curve a=x;");
        for (int k = 0; k < 22; k++) {
            x.move(1, 0, 1, 0, 1, 0);
        }
        due("ACTS", x.has(3), 20);
        due("read", read(x, "curve b=y;"), 1);
        due("none", x.has(3), 0);
        due("undo", x.undo(), false);
        alike("as told", all(x), "field 7; b=1x0y1");
        x.drop(0);
        due("one", x.has(3), 1);
        due("an empty text", x.curves(), 0);
        due("none again", x.has(3), 0);
        due("undo again", x.undo(), false);
    }

    private static void latestFault() {
        CurveMeets x = new CurveMeets();
        due("kind", read(x, "curve a=x;curve a=") * 10 + x.fault(0), -7);
        due("place", x.fault(1), 16);
        tape(x, "field 9;");
        due("a tape alone changes nothing", x.fault(0) * 100 + x.fault(1), 316);
        x.end(-1);
        x.undo();
        due("nor what is refused", x.fault(0) * 100 + x.fault(1), 316);
        x.curves();
        due("the next", x.fault(0) * 100 + x.fault(1), 206);
    }

    private static void noFault() {
        CurveMeets x = new CurveMeets();
        due("ahead of any", x.fault(0), 0);
        due("its place", x.fault(1), NONE);
        read(x, "$");
        due("a place 0", x.fault(1), 0);
        x.curves();
        due("without", x.fault(0), 0);
        due("no place", x.fault(1), NONE);
    }

    private static void otherOfFault() {
        CurveMeets x = new CurveMeets();
        noneForOthers("fault", 2, x::fault);
        read(x, "curve x");
        noneForOthers("fault", 2, x::fault);
    }

    private static void newObject() {
        CurveMeets x = new CurveMeets();
        due("CURVES", x.has(1), 0);
        due("P", x.has(0), 7);
        due("POINTS", x.has(2), 57);
        due("ACTS", x.has(3), 0);
        due("no tape", x.end(1), false);
        CurveMeets used = with("field 5;curve a=x;");
        due("a new one beside a used one", new CurveMeets().has(0), 7);
        due("which stays", used.has(0), 5);
    }

    private static void sentencesOnTexts() {
        sentence("I", "THE CURVES are a text: { STATEMENT ; }", TextEdgesTest::statements);
        sentence("I", "field N first, if it is told", TextEdgesTest::fieldIsFirst);
        sentence("I", "P, a prime of 2 .. 31", TextEdgesTest::fieldIsPrime);
        sentence("I", "(7 without)", TextEdgesTest::sevenWithout);
        sentence("I", "a CURVE (6 at most, from 0 on)", TextEdgesTest::sixCurves);
        sentence("I", "NAME: 1 to 6 letters a .. z", TextEdgesTest::lettersOfNames);
        sentence("I", "none of field, curve, x, y", TextEdgesTest::wordsThatAreNoNames);
        sentence("I", "that no CURVE has yet", TextEdgesTest::takenNames);
        sentence("I", "SUM: TERM, or - TERM, then { + TERM or - TERM }.", TextEdgesTest::sums);
        sentence("I", "TERM: FACTOR { * FACTOR }.", TextEdgesTest::products);
        sentence("I", "FACTOR: ATOM, behind it perhaps ^ N (0 .. 4).", TextEdgesTest::powers);
        sentence("I", "ATOM: N, x, y, ( SUM ).", TextEdgesTest::atoms);
        sentence("I", "All is reckoned in numbers modulo P (0 .. P less 1)", TextEdgesTest::numbersWrapAround);
        sentence("I", "DEGREE is the greatest i and j of a TERM that is not 0.", TextEdgesTest::degrees);
        sentence("I", "Nothing on the way has a DEGREE above 4", TextEdgesTest::nothingAboveFour);
        sentence("I", "TERMS that come to 0 don't count", TextEdgesTest::whatComesToZero);
        sentence("I", "a power goes step by step from the left, from 1 on", TextEdgesTest::powersStepByStep);
        sentence("I", "a CURVE's is 1 at least", TextEdgesTest::degreeOneAtLeast);
        sentence("I", "N: digits, 2147483647 at most.", TextEdgesTest::numbers);
        sentence("I", "Blanks (10, 32) are where one likes", TextEdgesTest::blanks);
        sentence("I", "words and numbers side by side need one; else it is FAULT 1 at the second's first byte",
            TextEdgesTest::sideBySide);
        sentence("I", "40 ( are open at once at most.", TextEdgesTest::fortyOpen);
    }

    private static void sentencesOnFaults() {
        sentence("I", "of several the one whose place is least", TextEdgesTest::leastPlace);
        sentence("I", "of one place the one that stands first here", TextEdgesTest::firstKindAtOnePlace);
        sentence("I", "1 the first byte with which no such text goes on", TextEdgesTest::firstByteThatCannotBe);
        sentence("I", "words and numbers whole, at their first byte", TextEdgesTest::wholeWordsAndNumbers);
        sentence("I", "where a NAME is asked one that can't be, at its first byte",
            TextEdgesTest::namesThatCannotBe);
        sentence("I", "at the text's length, if it ends too soon", TextEdgesTest::endsTooSoon);
        sentence("I", "2 an N that can't be, at its first byte", TextEdgesTest::numbersThatCannotBe);
        sentence("I", "3 a NAME that a CURVE has, at its first byte", TextEdgesTest::namesTakenAtFirstByte);
        sentence("I", "a 7th CURVE, at its word curve", TextEdgesTest::seventhCurve);
        sentence("I", "a 41st ( at itself", TextEdgesTest::bracketTooMany);
        sentence("I", "a FACTOR by which the product so far", TextEdgesTest::factorTooMuch);
        sentence("I", "a power by which it (at its ATOM's first byte) has a DEGREE above 4",
            TextEdgesTest::powerTooMuch);
        sentence("I", "5 a CURVE whose DEGREE would be 0 (or that is 0), at its NAME", TextEdgesTest::flatCurves);
        sentence("I", "as soon as its ; stands there (not ahead of that)", TextEdgesTest::flatOnlyWithItsEnd);
    }

    private static void sentencesOfPromises() {
        sentence("Promise 1", "No CURVES, P is 7.", TextEdgesTest::newObject);
        sentence("Promise 2", "Twenty bytes come behind those on the tape, of each number the highest first",
            TextEdgesTest::feedInOrder);
        sentence("Promise 2", "NONE, refused (0), if there would be more than 1000.", TextEdgesTest::feedTooMuch);
        sentence("Promise 2", "how many there are", TextEdgesTest::wholeTape);
        sentence("Promise 3", "false, refused (0), if it has not so many, or n is below 0.",
            TextEdgesTest::endOfTape);
        sentence("Promise 3", "The tape has its first n bytes alone", TextEdgesTest::firstBytesAlone);
        sentence("Promise 4", "The tape (it goes, refused or not) is THE CURVES", TextEdgesTest::tapeGoes);
        sentence("Promise 4", "NONE, refused (1), with a FAULT (all stays).", TextEdgesTest::allStays);
        sentence("Promise 4", "Without one no ACT can be undone.", TextEdgesTest::noActBehindAText);
        sentence("Promise 5", "Of the latest curves()", TextEdgesTest::latestFault);
        sentence("Promise 5", "0 without, and ahead of any), its place (1; NONE without)", TextEdgesTest::noFault);
        sentence("Promise 5", "NONE for another what.", TextEdgesTest::otherOfFault);
    }

    public static void main(String[] args) {
        sentencesOnTexts();
        sentencesOnFaults();
        sentencesOfPromises();
        close();
    }
}
