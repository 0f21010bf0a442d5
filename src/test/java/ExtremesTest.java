/** No call throws or fails to end, for any arguments in any state; one run of 512 calls after another. */
public final class ExtremesTest {
    private static final int[] EDGES = {0, 1, 2, 3, 4, 5, 6, 7, 24, 25, 48, 49, 56, 57, 58, 961, 991, 992, 993, 1000,
        -1, -2, -100, 65536, -65536, Integer.MAX_VALUE, Integer.MIN_VALUE, Integer.MAX_VALUE - 1,
        Integer.MIN_VALUE + 1};
    private static final String[] TEXTS = {
        "field 31;curve a=(x+y)^4;curve b=(x+y)^3*(x-y);curve c=x^4+y^4-1;",
        "field 2;curve a=x*y*(x+y)*(x+y+1);curve b=x^4+y;curve c=(x^2+x+1)^2;curve d=y;curve e=x;",
        "curve a=y-x^4;curve b=y^4-x^3;curve c=x*y-1;curve d=x^2+y^2;",
        "field 3;curve a=x^3-y;curve b=(x^3-y)*y;curve c=y^3;", "field 5;", "curve a=((((", "field 9;"};
    private static long seed = 7;

    private static int below(int n) {
        seed = seed * 6364136223846793005L + 1442695040888963407L;
        return (int) ((seed >>> 33) % n);
    }

    private static int any() {
        return below(3) == 0 ? EDGES[below(EDGES.length)] : below(4) == 0 ? below(1000) : below(6);
    }

    private static int text(CurveMeets x) {
        String text = TEXTS[below(TEXTS.length)];
        x.end(0);
        for (int at = 0; at < text.length(); at += 20) {
            int[] five = Answers.five(text, at, ' ');
            x.feed(five[0], five[1], five[2], five[3], five[4]);
        }
        return x.curves();
    }

    private static int one(CurveMeets x, int which) {
        switch (which) {
            case 0: return x.feed(any(), any(), any(), any(), any());
            case 1: return x.end(any()) ? 1 : 0;
            case 2: return below(4) == 0 ? x.curves() : text(x);
            case 3: return x.fault(any());
            case 4: return x.has(any());
            case 5: return x.letter(any(), any());
            case 6: return x.term(any(), any(), any());
            case 7: return x.degree(any());
            case 8: return x.value(any(), any());
            case 9: return x.point(any(), any());
            case 10: return x.order(any(), any());
            case 11: return x.local(any(), any(), any(), any());
            case 12: return x.singular(any(), any());
            case 13: return x.tangent(any(), any(), any(), any());
            case 14: return x.bend(any(), any());
            case 15: return x.flex(any(), any());
            case 16: return x.genus(any());
            case 17: return x.common(any(), any());
            default: return other(x, which);
        }
    }

    private static int other(CurveMeets x, int which) {
        switch (which) {
            case 18: return x.commonTerm(any(), any(), any(), any());
            case 19: return x.times(any(), any(), any());
            case 20: return x.rules(any(), any(), any(), any());
            case 21: return x.rule(any(), any(), any(), any());
            case 22: return x.size(any(), any(), any());
            case 23: return x.meet(any(), any(), any(), any());
            case 24: return x.parts(any(), any(), any());
            case 25: return x.total(any(), any(), any());
            case 26: return x.knot(any(), any());
            case 27: return x.most(any(), any(), any());
            case 28: return x.move(any(), any(), any(), any(), any(), any()) ? 1 : 0;
            case 29: return x.moved(any(), any(), any(), any(), any(), any(), any());
            case 30: return x.make(any(), any(), any(), any());
            case 31: return below(3) == 0 ? x.drop(any()) : 0;
            case 32: return x.undo() ? 1 : 0;
            default: return x.status(any());
        }
    }

    public static void main(String[] args) {
        long again = 0;
        for (int round = 0; round < 2; round++) {
            seed = 7;
            long sum = 0;
            for (int run = 0; run < 120; run++) {
                CurveMeets x = new CurveMeets();
                for (int call = 0; call < 512; call++) {
                    sum = sum * 31 + one(x, below(34));
                }
            }
            if (round == 1 && sum != again) {
                System.out.println("the same calls gave other answers");
                System.exit(1);
            }
            again = sum;
        }
        System.out.println("no call threw, and the same calls gave the same answers");
    }
}
