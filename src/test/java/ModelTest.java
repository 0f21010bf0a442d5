/** Many runs of calls, made by a fixed rule: the program answers as the model does. */
public final class ModelTest {
    private static final int[] PRIMES = {2, 3, 5, 7, 11, 13, 17, 19, 23, 29, 31};
    private static long seed = 1;

    private static int below(int n) {
        seed = seed * 6364136223846793005L + 1442695040888963407L;
        return (int) ((seed >>> 33) % n);
    }

    private static String pickOf(String... all) {
        return all[below(all.length)];
    }

    /** A sum of at most so high a degree. */
    private static String sum(int degree, int depth) {
        StringBuilder text = new StringBuilder(below(3) == 0 ? "-" : "");
        int terms = 1 + below(4);
        for (int k = 0; k < terms; k++) {
            text.append(k == 0 ? "" : pickOf("+", "-", " + ", " -\n"));
            text.append(term(degree, depth));
        }
        return text.toString();
    }

    private static String term(int degree, int depth) {
        StringBuilder text = new StringBuilder();
        int left = degree;
        int factors = 1 + below(3);
        for (int k = 0; k < factors; k++) {
            text.append(k == 0 ? "" : pickOf("*", " * "));
            int kind = below(depth > 0 ? 6 : 4);
            if (kind == 0 || left == 0) {
                text.append(below(9) == 0 ? below(2000000000) : below(12));
            } else if (kind < 4) {
                int n = 1 + below(left);
                left -= n;
                text.append(pickOf("x", "y")).append(n > 1 || below(5) == 0 ? "^" + n : "");
            } else {
                int n = 1 + below(left);
                int power = below(4) == 0 ? Math.min(4, left / n) : 1;
                left -= n * power;
                text.append("(").append(sum(n, depth - 1)).append(")");
                text.append(power > 1 ? "^" + power : "");
            }
        }
        return text.toString();
    }

    private static String curves(int p, int count) {
        StringBuilder text = new StringBuilder();
        if (p != 7 || below(2) == 0) {
            text.append("field ").append(p).append(";");
        }
        String shared = "(" + sum(1 + below(2), 0) + ")";
        for (int k = 0; k < count; k++) {
            text.append("curve ").append((char) ('a' + k)).append(pickOf("", "b", "zz", "field")).append("=");
            switch (below(5)) {
                case 0:
                    text.append(shared).append("*(").append(sum(1 + below(2), 1)).append(")");
                    break;
                case 1:
                    text.append(term(4, 1)).append("+").append(term(4, 1)).append("+").append(term(3, 0));
                    break;
                case 2:
                    text.append("y^").append(1 + below(4)).append("-x^").append(1 + below(4));
                    text.append("+").append(below(p)).append("*x*y");
                    break;
                default:
                    text.append(sum(1 + below(4), 2));
            }
            text.append(";");
        }
        return text.toString();
    }

    private static String spoiled(String text) {
        StringBuilder result = new StringBuilder(text);
        int often = 1 + below(2);
        for (int k = 0; k < often && result.length() > 0; k++) {
            int at = below(result.length());
            switch (below(4)) {
                case 0:
                    result.deleteCharAt(at);
                    break;
                case 1:
                    result.setLength(at);
                    break;
                case 2:
                    result.insert(at, pickOf("x", "y", "^4", "^0", "^5", "(", ")", "*x", "*y^3", "9999999999", ";",
                        " ", "\n", "curve ", "field 5;", "0*", "\t", "A", "2", "a", "-", "+", "=", "2147483648",
                        "2147483647", "é", "curve a=x;"));
                    break;
                default:
                    result.setCharAt(at, "xy^()*;= +-019ac".charAt(below(16)));
            }
        }
        return result.toString();
    }

    private static void texts(int runs) {
        for (int run = 0; run < runs; run++) {
            Pair pair = new Pair();
            for (int k = 0; k < 12; k++) {
                String text = curves(PRIMES[below(11)], below(8));
                if (below(4) > 0) {
                    text = spoiled(text);
                }
                if (text.length() <= 1000) {
                    pair.text(text);
                }
            }
            pair.state();
        }
    }

    private static void ask(Pair pair, int p) {
        int points = p * p + p + 1;
        int count = pair.model.has(1);
        int a = count == 0 ? 0 : below(count);
        int b = count == 0 ? 0 : below(count);
        pair.state();
        pair.one(a, below(points / 2 + 6) - 2);
        pair.one(a, -1);
        pair.at(a, below(points));
        int met = pair.model.point(a, below(4));
        pair.at(a, Math.max(met, 0));
        pair.at(a, p * p + below(p + 1));
        pair.two(a, b);
        pair.dimensions(a, b, below(27) - 1);
        pair.twoAt(a, b, below(points));
        for (int k = 0; k < 4; k++) {
            int q = pair.model.meet(a, b, k, 0);
            if (q >= 0) {
                pair.twoAt(a, b, q);
                pair.size(a, b, q);
                pair.knot(q);
            }
        }
        int singular = pair.model.singular(a, 0);
        if (singular >= 0) {
            pair.at(a, singular);
            pair.twoAt(a, b, singular);
        }
        pair.knot(below(points + 2) - 1);
    }

    private static int any(int p) {
        return below(6) == 0 ? (int) seed : below(2 * p) - below(p);
    }

    private static void act(Pair pair, int p) {
        int points = p * p + p + 1;
        switch (below(7)) {
            case 0:
                pair.move(any(p), any(p), any(p), any(p), any(p), any(p));
                break;
            case 1:
                pair.make(below(points + 1), below(points + 1), 3, 0);
                break;
            case 2:
                int curve = below(5);
                // The last POINTS of a CURVE are those at infinity, if it has any.
                int k = below(2) == 0 ? below(5) : pair.model.point(curve, Model.NONE) - 1 - below(2);
                pair.make(curve, Math.max(pair.model.point(curve, k), 0), 4, 0);
                break;
            case 3:
                pair.drop(below(6) - 1);
                break;
            case 4:
                pair.undo();
                break;
            default:
                pair.make(below(5), below(5), below(8) - 1, any(p));
        }
        int a = any(p);
        pair.moved(below(points + 2) - 1, a, any(p), any(p), any(p), any(p), any(p));
    }

    private static void runs(int runs, int most) {
        for (int run = 0; run < runs; run++) {
            int p = PRIMES[below(most)];
            Pair pair = new Pair();
            pair.text(curves(p, 1 + below(5)));
            p = pair.model.has(0);
            for (int k = 0; k < 4; k++) {
                ask(pair, p);
                act(pair, p);
                act(pair, p);
            }
            ask(pair, p);
        }
    }

    /** A curve through (0, 0) with many terms, of a higher order there or touching y = 0 closely. */
    private static String dense(int p) {
        StringBuilder text = new StringBuilder();
        int shape = below(4);
        for (int i = 0; i <= 4; i++) {
            for (int j = 0; j <= 4 - i; j++) {
                int weight = shape < 3 ? i + j : (i + 2 * j) / 3;
                if (weight > (shape < 3 ? shape : 0) && below(shape == 0 ? 3 : 2) == 0) {
                    text.append(text.length() > 0 ? "+" : "").append(1 + below(p - 1));
                    text.append("*x^").append(i).append("*y^").append(j);
                }
            }
        }
        return text.length() > 0 ? text.toString() : "y-x^4";
    }

    /** So many RULES that TERMS above 16 come up, and must be left out. */
    private static void deep(int runs) {
        for (int run = 0; run < runs; run++) {
            int p = PRIMES[below(4)];
            Pair pair = new Pair();
            pair.text("field " + p + ";curve a=" + dense(p) + ";curve b=" + dense(p) + ";");
            pair.twoAt(0, 1, 0);
            pair.twoAt(1, 0, 0);
            pair.size(0, 1, 0);
            int met = pair.model.meet(0, 1, below(3), 0);
            if (met > 0) {
                pair.twoAt(0, 1, met);
            }
        }
    }

    /** More ACTS than can be undone, and then more undos. */
    private static void undos(int runs) {
        for (int run = 0; run < runs; run++) {
            int p = PRIMES[below(5)];
            Pair pair = new Pair();
            pair.text(curves(p, 3));
            p = pair.model.has(0);
            for (int k = 0; k < 60; k++) {
                act(pair, p);
            }
            pair.state();
            for (int k = 0; k < 24; k++) {
                pair.undo();
                pair.state();
            }
        }
    }

    public static void main(String[] args) {
        int scale = args.length > 0 ? Integer.parseInt(args[0]) : 1;
        seed = args.length > 1 ? Long.parseLong(args[1]) : 1;
        texts(400 * scale);
        undos(40 * scale);
        deep(500 * scale);
        runs(60 * scale, 5);
        runs(6 * scale, 11);
        System.out.println(Pair.asked + " answers, " + Pair.wrong + " not as the model's");
        if (Pair.wrong != 0) {
            System.exit(1);
        }
    }
}
