import java.util.ArrayList;
import java.util.HashMap;
import java.util.List;

/**
 * The document once more, in the slowest and plainest words: dimensions by whole matrices, moves by
 * trying every point. The tests compare the program with it.
 */
final class Model {
    static final int NONE = -1;
    static final int ENDLESS = -2;

    /** Terms by their two exponents; none is 0. */
    static final class Sum extends HashMap<List<Integer>, Integer> {
        private static final long serialVersionUID = 1;

        int get(int i, int j) {
            return getOrDefault(List.of(i, j), 0);
        }

        void plus(int i, int j, long number, int p) {
            int now = (int) Math.floorMod(get(i, j) + number, (long) p);
            if (now == 0) {
                remove(List.of(i, j));
            } else {
                put(List.of(i, j), now);
            }
        }

        int top() {
            int top = -1;
            for (List<Integer> key : keySet()) {
                top = Math.max(top, key.get(0) + key.get(1));
            }
            return top;
        }

        int low() {
            int low = 1000;
            for (List<Integer> key : keySet()) {
                low = Math.min(low, key.get(0) + key.get(1));
            }
            return low;
        }
    }

    static Sum one(int number, int p) {
        return single(0, 0, number, p);
    }

    static Sum single(int i, int j, long number, int p) {
        Sum sum = new Sum();
        sum.plus(i, j, number, p);
        return sum;
    }

    static Sum plus(Sum a, Sum b, long often, int p) {
        Sum sum = new Sum();
        a.forEach((key, number) -> sum.plus(key.get(0), key.get(1), number, p));
        b.forEach((key, number) -> sum.plus(key.get(0), key.get(1), number * often, p));
        return sum;
    }

    static Sum times(Sum a, Sum b, int p) {
        Sum sum = new Sum();
        a.forEach((k, n) -> b.forEach((l, m) ->
            sum.plus(k.get(0) + l.get(0), k.get(1) + l.get(1), (long) n * m, p)));
        return sum;
    }

    static Sum power(Sum a, int n, int p) {
        Sum sum = one(1, p);
        for (int k = 0; k < n; k++) {
            sum = times(sum, a, p);
        }
        return sum;
    }

    /** What comes when x and y (and z, by the degree n) are put in. */
    static Sum put(Sum f, int n, Sum x, Sum y, Sum z, int p) {
        Sum sum = new Sum();
        for (List<Integer> key : f.keySet()) {
            int i = key.get(0);
            int j = key.get(1);
            Sum product = times(times(power(x, i, p), power(y, j, p), p), power(z, n - i - j, p), p);
            sum = plus(sum, product, f.get(i, j), p);
        }
        return sum;
    }

    static int rank(List<int[]> rows, int p) {
        int rank = 0;
        if (rows.isEmpty()) {
            return 0;
        }
        int width = rows.get(0).length;
        for (int c = 0; c < width && rank < rows.size(); c++) {
            int found = rank;
            while (found < rows.size() && rows.get(found)[c] == 0) {
                found++;
            }
            if (found == rows.size()) {
                continue;
            }
            int[] pivot = rows.get(found);
            rows.set(found, rows.get(rank));
            rows.set(rank, pivot);
            int inverse = inverse(pivot[c], p);
            for (int r = rank + 1; r < rows.size(); r++) {
                int[] row = rows.get(r);
                if (row[c] != 0) {
                    int often = p - row[c] * inverse % p;
                    for (int k = c; k < width; k++) {
                        row[k] = (row[k] + often * pivot[k]) % p;
                    }
                }
            }
            rank++;
        }
        return rank;
    }

    static int inverse(int number, int p) {
        for (int k = 1; k < p; k++) {
            if (number * k % p == 1) {
                return k;
            }
        }
        throw new IllegalStateException("no inverse of " + number);
    }

    /** The multiples of f by single terms up to a degree, terms above the top left out. */
    static List<int[]> multiples(Sum f, int most, int top) {
        List<int[]> rows = new ArrayList<>();
        for (int i = 0; i <= most; i++) {
            for (int j = 0; j <= most - i; j++) {
                int[] row = new int[(top + 1) * (top + 1)];
                for (List<Integer> key : f.keySet()) {
                    int x = key.get(0) + i;
                    int y = key.get(1) + j;
                    if (x + y <= top) {
                        row[x * (top + 1) + y] = f.get(key.get(0), key.get(1));
                    }
                }
                rows.add(row);
            }
        }
        return rows;
    }

    static int forms(int d) {
        return d < 0 ? 0 : (d + 1) * (d + 2) / 2;
    }

    static int parts(Sum f, Sum g, int d, int p) {
        List<int[]> rows = multiples(f, d - f.top(), d);
        rows.addAll(multiples(g, d - g.top(), d));
        return forms(d) - rank(rows, p);
    }

    static int near(Sum f, Sum g, int p) {
        List<int[]> rows = multiples(f, 24 - f.top(), 24);
        rows.addAll(multiples(g, 24 - g.top(), 24));
        int alone = rank(rows, p);
        rows = multiples(f, 24 - f.top(), 24);
        rows.addAll(multiples(g, 24 - g.top(), 24));
        rows.addAll(multiples(one(1, p), 8, 24));
        return rank(rows, p) - alone;
    }

    static int size(Sum f, Sum g, int p) {
        List<int[]> rows = multiples(f, 16, 16);
        rows.addAll(multiples(g, 16, 16));
        return forms(16) - rank(rows, p);
    }

    /** By Euclid's rule in y over the fractions in x, and by x alone: the greatest common part. */
    static Sum common(Sum f, Sum g, int p) {
        Sum contentF = content(f, p);
        Sum contentG = content(g, p);
        Sum part = inX(contentF, contentG, p);
        Sum a = divideByX(f, contentF, p);
        Sum b = divideByX(g, contentG, p);
        while (!b.isEmpty()) {
            Sum rest = a;
            while (!rest.isEmpty() && degreeY(rest) >= degreeY(b)) {
                int n = degreeY(rest);
                int m = degreeY(b);
                Sum left = times(rest, leadY(b), p);
                Sum right = times(times(b, leadY(rest), p), single(0, n - m, 1, p), p);
                rest = plus(left, right, -1, p);
            }
            a = b;
            b = rest.isEmpty() ? rest : divideByX(rest, content(rest, p), p);
        }
        return monic(times(part, a, p), p);
    }

    static Sum monic(Sum f, int p) {
        int n = f.top();
        for (int i = n; i >= 0; i--) {
            if (f.get(i, n - i) != 0) {
                return plus(new Sum(), f, inverse(f.get(i, n - i), p), p);
            }
        }
        return f;
    }

    static int degreeY(Sum f) {
        int degree = -1;
        for (List<Integer> key : f.keySet()) {
            degree = Math.max(degree, key.get(1));
        }
        return degree;
    }

    static Sum leadY(Sum f) {
        return coefficient(f, degreeY(f));
    }

    static Sum coefficient(Sum f, int j) {
        Sum sum = new Sum();
        for (List<Integer> key : f.keySet()) {
            if (key.get(1) == j) {
                sum.put(List.of(key.get(0), 0), f.get(key.get(0), j));
            }
        }
        return sum;
    }

    static Sum content(Sum f, int p) {
        Sum sum = new Sum();
        for (int j = 0; j <= degreeY(f); j++) {
            sum = inX(sum, coefficient(f, j), p);
        }
        return sum;
    }

    static Sum inX(Sum a, Sum b, int p) {
        while (!b.isEmpty()) {
            Sum rest = restInX(a, b, p);
            a = b;
            b = rest;
        }
        return a.isEmpty() ? a : monic(a, p);
    }

    static Sum restInX(Sum a, Sum b, int p) {
        while (!a.isEmpty() && a.top() >= b.top()) {
            int often = a.get(a.top(), 0) * inverse(b.get(b.top(), 0), p) % p;
            a = plus(a, times(b, single(a.top() - b.top(), 0, often, p), p), -1, p);
        }
        return a;
    }

    static Sum divideByX(Sum f, Sum by, int p) {
        Sum result = new Sum();
        for (int j = 0; j <= degreeY(f); j++) {
            Sum a = coefficient(f, j);
            while (!a.isEmpty() && a.top() >= by.top()) {
                int often = a.get(a.top(), 0) * inverse(by.get(by.top(), 0), p) % p;
                int i = a.top() - by.top();
                result.plus(i, j, often, p);
                a = plus(a, times(by, single(i, 0, often, p), p), -1, p);
            }
            if (!a.isEmpty()) {
                throw new IllegalStateException("a division leaves a rest");
            }
        }
        return result;
    }

    // ---- the text

    static final class Fault extends RuntimeException {
        private static final long serialVersionUID = 1;
        final int kind;
        final int place;

        Fault(int kind, int place) {
            super(null, null, false, false);
            this.kind = kind;
            this.place = place;
        }
    }

    /** A word, a number, a sign, or (empty) the end, with its place and what is before it. */
    static final class Token {
        String text;
        int place;
        boolean isGlued;
    }

    private List<Token> tokens;
    private int next;
    private int readP;
    private List<Sum> readCurves;
    private List<String> readNames;

    static boolean isWord(String text) {
        return !text.isEmpty() && text.charAt(0) >= 'a' && text.charAt(0) <= 'z';
    }

    static boolean isNumber(String text) {
        return !text.isEmpty() && text.charAt(0) >= '0' && text.charAt(0) <= '9';
    }

    static List<Token> tokenize(String text) {
        List<Token> tokens = new ArrayList<>();
        int at = 0;
        int before = -1;
        while (true) {
            while (at < text.length() && (text.charAt(at) == 10 || text.charAt(at) == 32)) {
                at++;
            }
            Token token = new Token();
            token.place = at;
            int end = at;
            if (at < text.length()) {
                String first = text.substring(at, at + 1);
                end = at + 1;
                while (end < text.length()
                    && (isWord(first) && isWord(text.substring(end, end + 1))
                    || isNumber(first) && isNumber(text.substring(end, end + 1)))) {
                    end++;
                }
            }
            token.text = text.substring(at, end);
            Token last = tokens.isEmpty() ? null : tokens.get(tokens.size() - 1);
            token.isGlued = last != null && before == at && (isWord(last.text) || isNumber(last.text))
                && (isWord(token.text) || isNumber(token.text));
            tokens.add(token);
            if (token.text.isEmpty()) {
                return tokens;
            }
            at = end;
            before = end;
        }
    }

    private Token token() {
        return tokens.get(next);
    }

    private Token ask(boolean fits) {
        if (!fits || token().isGlued) {
            throw new Fault(1, token().place);
        }
        return tokens.get(next++);
    }

    private boolean takes(String text) {
        if (!token().isGlued && token().text.equals(text)) {
            next++;
            return true;
        }
        return false;
    }

    private static long numberOf(Token token) {
        java.math.BigInteger number = new java.math.BigInteger(token.text);
        if (number.compareTo(java.math.BigInteger.valueOf(2147483647L)) > 0) {
            throw new Fault(2, token.place);
        }
        return number.longValue();
    }

    private void readText(String text) {
        tokens = tokenize(text);
        next = 0;
        readP = 7;
        readCurves = new ArrayList<>();
        readNames = new ArrayList<>();
        if (takes("field")) {
            Token token = ask(isNumber(token().text));
            long number = numberOf(token);
            if (number < 2 || number > 31 || !java.math.BigInteger.valueOf(number).isProbablePrime(50)) {
                throw new Fault(2, token.place);
            }
            readP = (int) number;
            ask(token().text.equals(";"));
        }
        while (!token().text.isEmpty()) {
            Token word = ask(token().text.equals("curve"));
            if (readCurves.size() == 6) {
                throw new Fault(4, word.place);
            }
            Token name = ask(token().text.matches("[a-z]{1,6}")
                && !List.of("field", "curve", "x", "y").contains(token().text));
            if (readNames.contains(name.text)) {
                throw new Fault(3, name.place);
            }
            ask(token().text.equals("="));
            Sum sum = readSum(0);
            ask(token().text.equals(";"));
            if (sum.top() < 1) {
                throw new Fault(5, name.place);
            }
            readNames.add(name.text);
            readCurves.add(sum);
        }
    }

    private Sum readSum(int open) {
        int sign = takes("-") ? -1 : 1;
        Sum sum = new Sum();
        while (true) {
            sum = plus(sum, readTerm(open), sign, readP);
            if (takes("+")) {
                sign = 1;
            } else if (takes("-")) {
                sign = -1;
            } else {
                return sum;
            }
        }
    }

    private Sum readTerm(int open) {
        Sum product = one(1, readP);
        do {
            int place = token().place;
            product = times(product, readFactor(open), readP);
            if (product.top() > 4) {
                throw new Fault(4, place);
            }
        } while (takes("*"));
        return product;
    }

    private Sum readFactor(int open) {
        int place = token().place;
        Sum atom = readAtom(open);
        if (!takes("^")) {
            return atom;
        }
        Token token = ask(isNumber(token().text));
        long n = numberOf(token);
        if (n > 4) {
            throw new Fault(2, token.place);
        }
        Sum sum = power(atom, (int) n, readP);
        if (sum.top() > 4) {
            throw new Fault(4, place);
        }
        return sum;
    }

    private Sum readAtom(int open) {
        Token token = ask(isNumber(token().text) || token().text.equals("x") || token().text.equals("y")
            || token().text.equals("("));
        if (isNumber(token.text)) {
            return one((int) (numberOf(token) % readP), readP);
        }
        if (!token.text.equals("(")) {
            boolean isX = token.text.equals("x");
            return single(isX ? 1 : 0, isX ? 0 : 1, 1, readP);
        }
        if (open == 40) {
            throw new Fault(4, token.place);
        }
        Sum sum = readSum(open + 1);
        ask(token().text.equals(")"));
        return sum;
    }

    // ---- the face

    private StringBuilder tape = new StringBuilder();
    private int p = 7;
    private List<Sum> all = new ArrayList<>();
    private List<String> names = new ArrayList<>();
    private final List<List<Sum>> oldCurves = new ArrayList<>();
    private final List<List<String>> oldNames = new ArrayList<>();
    private int faultKind = 0;
    private int faultPlace = NONE;
    private final int[] refused = new int[5];

    int feed(int a, int b, int c, int d, int e) {
        if (tape.length() + 20 > 1000) {
            refused[0]++;
            return NONE;
        }
        for (int number : new int[] {a, b, c, d, e}) {
            for (int k = 3; k >= 0; k--) {
                tape.append((char) (number >> 8 * k & 255));
            }
        }
        return tape.length();
    }

    boolean end(int n) {
        if (n < 0 || n > tape.length()) {
            refused[0]++;
            return false;
        }
        tape.setLength(n);
        return true;
    }

    int curves() {
        String text = tape.toString();
        tape.setLength(0);
        try {
            readText(text);
        } catch (Fault fault) {
            faultKind = fault.kind;
            faultPlace = fault.place;
            refused[1]++;
            return NONE;
        }
        faultKind = 0;
        faultPlace = NONE;
        p = readP;
        all = readCurves;
        names = readNames;
        oldCurves.clear();
        oldNames.clear();
        return all.size();
    }

    int fault(int what) {
        return what == 0 ? faultKind : what == 1 ? faultPlace : NONE;
    }

    int points() {
        return p * p + p + 1;
    }

    int has(int what) {
        return what == 0 ? p : what == 1 ? all.size() : what == 2 ? points()
            : what == 3 ? oldCurves.size() : NONE;
    }

    boolean is(int curve) {
        return curve >= 0 && curve < all.size();
    }

    boolean isPoint(int point) {
        return point >= 0 && point < points();
    }

    static boolean isTerm(int i, int j) {
        return i >= 0 && j >= 0 && (long) i + j <= 4;
    }

    int letter(int curve, int i) {
        if (!is(curve) || i < 0 || i > 5) {
            return NONE;
        }
        String name = names.get(curve);
        return i < name.length() ? name.charAt(i) - 96 : 0;
    }

    int term(int curve, int i, int j) {
        return is(curve) && isTerm(i, j) ? all.get(curve).get(i, j) : NONE;
    }

    int degree(int curve) {
        return is(curve) ? all.get(curve).top() : NONE;
    }

    int[] triple(int point) {
        if (point < p * p) {
            return new int[] {point / p, point % p, 1};
        }
        return point == p * p + p ? new int[] {0, 1, 0} : new int[] {1, point - p * p, 0};
    }

    int number(long x, long y, long z) {
        for (int q = 0; q < points(); q++) {
            int[] t = triple(q);
            if ((t[0] * y - t[1] * x) % p == 0 && (t[0] * z - t[2] * x) % p == 0
                && (t[1] * z - t[2] * y) % p == 0) {
                return q;
            }
        }
        throw new IllegalStateException("no such point");
    }

    int valueOf(Sum f, int point) {
        int[] t = triple(point);
        return put(f, f.top(), one(t[0], p), one(t[1], p), one(t[2], p), p).get(0, 0);
    }

    Sum localOf(Sum f, int point) {
        int[] t = triple(point);
        Sum u = single(1, 0, 1, p);
        Sum v = single(0, 1, 1, p);
        if (t[2] == 1) {
            return put(f, f.top(), plus(u, one(t[0], p), 1, p), plus(v, one(t[1], p), 1, p), one(1, p), p);
        }
        if (t[0] == 1) {
            return put(f, f.top(), one(1, p), plus(u, one(t[1], p), 1, p), v, p);
        }
        return put(f, f.top(), u, one(1, p), v, p);
    }

    int value(int curve, int point) {
        return is(curve) && isPoint(point) ? valueOf(all.get(curve), point) : NONE;
    }

    private static int pick(List<Integer> list, int k) {
        return k == NONE ? list.size() : k >= 0 && k < list.size() ? list.get(k) : NONE;
    }

    List<Integer> on(Sum f) {
        List<Integer> list = new ArrayList<>();
        for (int q = 0; q < points(); q++) {
            if (valueOf(f, q) == 0) {
                list.add(q);
            }
        }
        return list;
    }

    int point(int curve, int k) {
        return is(curve) ? pick(on(all.get(curve)), k) : NONE;
    }

    int order(int curve, int point) {
        return is(curve) && isPoint(point) ? localOf(all.get(curve), point).low() : NONE;
    }

    int local(int curve, int point, int i, int j) {
        return is(curve) && isPoint(point) && isTerm(i, j) ? localOf(all.get(curve), point).get(i, j) : NONE;
    }

    int singular(int curve, int k) {
        if (!is(curve)) {
            return NONE;
        }
        List<Integer> list = on(all.get(curve));
        list.removeIf(q -> order(curve, q) < 2);
        return pick(list, k);
    }

    /** How often the lowest terms can be divided by v less way times u (or u): tried by solving. */
    int oftenTangent(Sum local, int way) {
        int n = local.low();
        Sum lowest = new Sum();
        for (int i = 0; i <= n; i++) {
            lowest.plus(i, n - i, local.get(i, n - i), p);
        }
        Sum factor = way == p ? single(1, 0, 1, p) : plus(single(0, 1, 1, p), single(1, 0, way, p), -1, p);
        int often = 0;
        Sum product = factor;
        while (often < n && divides(product, lowest, n)) {
            often++;
            product = times(product, factor, p);
        }
        return often;
    }

    /** Whether a form divides another one of degree n: then that adds nothing to its multiples. */
    private boolean divides(Sum product, Sum form, int n) {
        List<int[]> rows = multiples(product, n - product.top(), n);
        int alone = rank(rows, p);
        rows = multiples(product, n - product.top(), n);
        rows.addAll(multiples(form, 0, n));
        return rank(rows, p) == alone;
    }

    int tangent(int curve, int point, int k, int what) {
        if (!is(curve) || !isPoint(point) || value(curve, point) != 0 || what < 0 || what > 1) {
            return NONE;
        }
        Sum local = localOf(all.get(curve), point);
        List<Integer> ways = new ArrayList<>();
        List<Integer> often = new ArrayList<>();
        for (int way = 0; way <= p; way++) {
            int n = oftenTangent(local, way);
            if (n > 0) {
                ways.add(way);
                often.add(n);
            }
        }
        if (k == NONE && what == 1) {
            return often.stream().mapToInt(n -> n).sum();
        }
        return pick(what == 0 ? ways : often, k);
    }

    int bend(int curve, int point) {
        if (order(curve, point) != 1) {
            return NONE;
        }
        Sum local = localOf(all.get(curve), point);
        int way = tangent(curve, point, 0, 0);
        Sum s = single(1, 0, 1, p);
        Sum u = way == p ? new Sum() : s;
        Sum v = way == p ? s : single(1, 0, way, p);
        Sum along = put(local, local.top(), u, v, one(1, p), p);
        return along.isEmpty() ? ENDLESS : along.low();
    }

    int flex(int curve, int k) {
        if (!is(curve)) {
            return NONE;
        }
        List<Integer> list = on(all.get(curve));
        list.removeIf(q -> bend(curve, q) < 3 && bend(curve, q) != ENDLESS);
        return pick(list, k);
    }

    int genus(int curve) {
        if (!is(curve)) {
            return -100;
        }
        int n = degree(curve);
        int genus = (n - 1) * (n - 2) / 2;
        for (int q : on(all.get(curve))) {
            int m = order(curve, q);
            genus -= m * (m - 1) / 2;
        }
        return genus;
    }

    int common(int a, int b) {
        return is(a) && is(b) ? common(all.get(a), all.get(b), p).top() : NONE;
    }

    int commonTerm(int a, int b, int i, int j) {
        return is(a) && is(b) && isTerm(i, j) ? common(all.get(a), all.get(b), p).get(i, j) : NONE;
    }

    private List<Integer> taken = new ArrayList<>();
    private List<Object> takenOf = List.of();
    private int takenTimes = 0;

    private static int pure(Sum f, boolean greatest) {
        int found = -1;
        for (int i = 0; i <= 16; i++) {
            int at = greatest ? 16 - i : i;
            if (found < 0 && f.get(at, 0) != 0) {
                found = at;
            }
        }
        return found;
    }

    private static Sum cutOff(Sum f) {
        f.keySet().removeIf(key -> key.get(0) + key.get(1) > 16);
        return f;
    }

    int times(int a, int b, int point) {
        if (!is(a) || !is(b) || !isPoint(point)) {
            return NONE;
        }
        // The rules of one meeting are asked one by one: they are reckoned once.
        List<Object> asked = List.of(p, all.get(a), all.get(b), point);
        if (!asked.equals(takenOf)) {
            takenTimes = byRules(a, b, point);
            takenOf = asked;
        }
        return takenTimes;
    }

    private int byRules(int a, int b, int point) {
        if (valueOf(common(all.get(a), all.get(b), p), point) == 0) {
            return ENDLESS;
        }
        Sum f = localOf(all.get(a), point);
        Sum g = localOf(all.get(b), point);
        taken = new ArrayList<>();
        int sum = 0;
        while (f.get(0, 0) == 0 && g.get(0, 0) == 0) {
            int r = pure(f, true);
            int s = pure(g, true);
            if (r < 0) {
                taken.add(1);
                sum += pure(g, false);
                Sum less = new Sum();
                for (List<Integer> key : f.keySet()) {
                    less.plus(key.get(0), key.get(1) - 1, f.get(key.get(0), key.get(1)), p);
                }
                f = less;
            } else if (s < 0 || r > s) {
                taken.add(2);
                Sum old = f;
                f = g;
                g = old;
            } else {
                taken.add(3);
                int ratio = g.get(s, 0) * inverse(f.get(r, 0), p) % p;
                g = cutOff(plus(g, times(f, single(s - r, 0, ratio, p), p), -1, p));
            }
        }
        taken.add(0);
        return sum;
    }

    int rules(int a, int b, int point, int kind) {
        if (times(a, b, point) < 0 || kind < 0 || kind > 3) {
            return NONE;
        }
        return (int) taken.stream().filter(n -> n == kind).count();
    }

    int rule(int a, int b, int point, int k) {
        return times(a, b, point) < 0 || k < 0 ? NONE : pick(taken, k);
    }

    int size(int a, int b, int point) {
        return is(a) && is(b) && isPoint(point)
            ? size(localOf(all.get(a), point), localOf(all.get(b), point), p) : NONE;
    }

    private static int together(List<Integer> list) {
        return list.contains(ENDLESS) ? ENDLESS : list.stream().mapToInt(n -> n).sum();
    }

    private List<Integer> onBoth(int a, int b) {
        List<Integer> list = on(all.get(a));
        list.retainAll(on(all.get(b)));
        return list;
    }

    private List<Integer> timesAt(int a, int b, List<Integer> points) {
        List<Integer> list = new ArrayList<>();
        for (int q : points) {
            list.add(times(a, b, q));
        }
        return list;
    }

    int meet(int a, int b, int k, int what) {
        if (!is(a) || !is(b) || what < 0 || what > 1) {
            return NONE;
        }
        List<Integer> points = onBoth(a, b);
        if (what == 0) {
            return pick(points, k);
        }
        List<Integer> times = timesAt(a, b, points);
        return k == NONE ? together(times) : pick(times, k);
    }

    int parts(int a, int b, int d) {
        return is(a) && is(b) && d >= 0 && d <= 24 ? parts(all.get(a), all.get(b), d, p) : NONE;
    }

    int total(int a, int b, int what) {
        if (!is(a) || !is(b) || common(a, b) > 0 || what < 0 || what > 4) {
            return NONE;
        }
        int product = degree(a) * degree(b);
        if (what == 0) {
            return product;
        }
        if (what < 3) {
            int near = near(all.get(a), all.get(b), p);
            return what == 1 ? near : product - near;
        }
        List<Integer> points = onBoth(a, b);
        points.removeIf(q -> (q >= p * p) == (what == 3));
        return together(timesAt(a, b, points));
    }

    int knot(int point, int what) {
        if (!isPoint(point) || what < 0 || what > 1) {
            return NONE;
        }
        List<Integer> here = new ArrayList<>();
        for (int k = 0; k < all.size(); k++) {
            if (value(k, point) == 0) {
                here.add(k);
            }
        }
        List<Integer> times = new ArrayList<>();
        for (int a : here) {
            for (int b : here) {
                if (a < b) {
                    times.add(times(a, b, point));
                }
            }
        }
        return what == 0 ? here.size() : together(times);
    }

    int most(int a, int b, int what) {
        if (!is(a) || !is(b) || what < 0 || what > 1) {
            return NONE;
        }
        List<Integer> points = onBoth(a, b);
        List<Integer> times = timesAt(a, b, points);
        if (times.isEmpty()) {
            return what == 0 ? 0 : NONE;
        }
        int greatest = times.contains(ENDLESS) ? ENDLESS : java.util.Collections.max(times);
        return what == 0 ? greatest : points.get(times.indexOf(greatest));
    }

    private void keep() {
        oldCurves.add(new ArrayList<>(all));
        oldNames.add(new ArrayList<>(names));
        if (oldCurves.size() > 20) {
            oldCurves.remove(0);
            oldNames.remove(0);
        }
    }

    private boolean isMove(int a, int b, int c, int d) {
        return Math.floorMod((long) Math.floorMod(a, p) * Math.floorMod(d, p)
            - (long) Math.floorMod(b, p) * Math.floorMod(c, p), (long) p) != 0;
    }

    private Sum linear(int a, int b, int e) {
        Sum sum = new Sum();
        sum.plus(1, 0, a, p);
        sum.plus(0, 1, b, p);
        sum.plus(0, 0, e, p);
        return sum;
    }

    boolean move(int a, int b, int e, int c, int d, int f) {
        if (!isMove(a, b, c, d)) {
            refused[2]++;
            return false;
        }
        keep();
        for (int k = 0; k < all.size(); k++) {
            Sum curve = all.get(k);
            all.set(k, put(curve, curve.top(), linear(a, b, e), linear(c, d, f), one(1, p), p));
        }
        return true;
    }

    int moved(int point, int a, int b, int e, int c, int d, int f) {
        if (!isPoint(point) || !isMove(a, b, c, d)) {
            return NONE;
        }
        for (int q = 0; q < points(); q++) {
            int[] t = triple(q);
            long x = (long) Math.floorMod(a, p) * t[0] + (long) Math.floorMod(b, p) * t[1]
                + (long) Math.floorMod(e, p) * t[2];
            long y = (long) Math.floorMod(c, p) * t[0] + (long) Math.floorMod(d, p) * t[1]
                + (long) Math.floorMod(f, p) * t[2];
            if (number(x % p, y % p, t[2]) == point) {
                return q;
            }
        }
        throw new IllegalStateException("a move brings no point here");
    }

    private Sum line(long x, long y, long z) {
        Sum sum = new Sum();
        sum.plus(1, 0, x, p);
        sum.plus(0, 1, y, p);
        sum.plus(0, 0, z, p);
        return sum.top() == 1 ? monic(sum, p) : null;
    }

    /** The one line, of all there are, that goes as it is asked: null if that is the one at infinity. */
    private Sum lineThrough(int a, int b) {
        for (int q = 0; q < points(); q++) {
            int[] l = triple(q);
            int[] s = triple(a);
            int[] t = triple(b);
            if ((l[0] * s[0] + l[1] * s[1] + l[2] * s[2]) % p == 0
                && (l[0] * t[0] + l[1] * t[1] + l[2] * t[2]) % p == 0) {
                return line(l[0], l[1], l[2]);
            }
        }
        throw new IllegalStateException("no line");
    }

    /** The line that meets the curve twice or more at a point of order 1. */
    private Sum lineTangent(Sum curve, int point) {
        Sum local = localOf(curve, point);
        for (int q = 0; q < points(); q++) {
            int[] l = triple(q);
            Sum line = line(l[0], l[1], l[2]);
            if (line == null || valueOf(line, point) != 0) {
                continue;
            }
            Sum other = localOf(line, point);
            if ((local.get(1, 0) * other.get(0, 1) - local.get(0, 1) * other.get(1, 0)) % p == 0) {
                return line;
            }
        }
        return null;
    }

    private Sum made(int a, int b, int how, int t) {
        if (how == 0 && is(a) && is(b)) {
            Sum sum = times(all.get(a), all.get(b), p);
            return sum.top() > 4 ? null : sum;
        }
        if (how == 1 && is(a) && is(b)) {
            return plus(all.get(a), all.get(b), t, p);
        }
        if (how == 2 && is(a) && is(b)) {
            return common(all.get(a), all.get(b), p);
        }
        if (how == 3 && isPoint(a) && isPoint(b) && a != b) {
            return lineThrough(a, b);
        }
        if (how == 4 && is(a) && isPoint(b) && order(a, b) == 1) {
            return lineTangent(all.get(a), b);
        }
        if (how == 5 && is(a) && (b == 0 || b == 1)) {
            Sum sum = new Sum();
            for (List<Integer> key : all.get(a).keySet()) {
                int i = key.get(0);
                int j = key.get(1);
                int often = all.get(a).get(i, j);
                sum.plus(b == 0 ? i - 1 : i, b == 0 ? j : j - 1, (long) often * (b == 0 ? i : j), p);
            }
            return sum;
        }
        return null;
    }

    int make(int a, int b, int how, int t) {
        Sum sum = all.size() == 6 ? null : made(a, b, how, t);
        if (sum == null || sum.top() < 1) {
            refused[3]++;
            return NONE;
        }
        keep();
        all.add(sum);
        names.add("");
        return all.size() - 1;
    }

    int drop(int curve) {
        if (!is(curve)) {
            refused[3]++;
            return NONE;
        }
        keep();
        names.remove(curve);
        return all.remove(curve).top();
    }

    boolean undo() {
        if (oldCurves.isEmpty()) {
            refused[4]++;
            return false;
        }
        all = oldCurves.remove(oldCurves.size() - 1);
        names = oldNames.remove(oldNames.size() - 1);
        return true;
    }

    int status(int what) {
        return what < 0 || what > 4 ? NONE : refused[what];
    }
}
