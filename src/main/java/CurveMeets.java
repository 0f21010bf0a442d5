/** How often plane curves meet at points, over fields of primes; ../shared/DOC.md tells the promises. */
public final class CurveMeets {
    public static final int NONE = -1;

    private static final int ENDLESS = -2;
    private static final int NO_GENUS = -100;

    private static final int FIRST_P = 7;
    private static final int MOST_CURVES = 6;
    private static final int MOST_DEGREE = 4;
    private static final int MOST_LETTERS = 6;
    private static final int MOST_TAPE = 1000;
    private static final int MOST_OPEN = 40;
    private static final int MOST_ACTS = 20;
    private static final int MOST_PARTS = 24;

    private static final int FAULT_FORM = 1;
    private static final int FAULT_NUMBER = 2;
    private static final int FAULT_NAME = 3;
    private static final int FAULT_MUCH = 4;
    private static final int FAULT_FLAT = 5;

    private static final int TRAIT_ON = 0;
    private static final int TRAIT_SINGULAR = 1;
    private static final int TRAIT_FLEX = 2;

    private static final int REFUSED_TAPE = 0;
    private static final int REFUSED_CURVES = 1;
    private static final int REFUSED_MOVE = 2;
    private static final int REFUSED_MAKE = 3;
    private static final int REFUSED_UNDO = 4;
    private static final int REFUSALS = 5;

    private final Reader reader;
    private final Shelf shelf;
    private final Past past;
    private final Spot spot;
    private final View view;
    private final View otherView;
    private final Sharing sharing;
    private final Reduction reduction;
    private final Ring ring;
    private final Maker maker;
    private final int[] refused;
    private int faultKind;
    private int faultPlace;

    public CurveMeets() {
        Space space = new Space();
        reader = new Reader();
        shelf = new Shelf();
        past = new Past();
        spot = new Spot();
        view = new View();
        otherView = new View();
        sharing = new Sharing(space);
        reduction = new Reduction();
        ring = new Ring(space);
        maker = new Maker();
        refused = new int[REFUSALS];
        faultKind = 0;
        faultPlace = NONE;
    }

    public int feed(int a, int b, int c, int d, int e) {
        if (!reader.hasRoomForFive()) {
            refuse(REFUSED_TAPE);
            return NONE;
        }
        reader.append(a);
        reader.append(b);
        reader.append(c);
        reader.append(d);
        reader.append(e);
        return reader.length;
    }

    public boolean end(int n) {
        if (n < 0 || n > reader.length) {
            refuse(REFUSED_TAPE);
            return false;
        }
        reader.length = n;
        return true;
    }

    public int curves() {
        boolean fine = reader.readText();
        reader.length = 0;
        faultKind = reader.faultKind;
        faultPlace = reader.faultPlace;
        if (!fine) {
            refuse(REFUSED_CURVES);
            return NONE;
        }
        shelf.copy(reader.draft);
        past.forget();
        return shelf.count;
    }

    public int fault(int what) {
        if (what == 0) {
            return faultKind;
        }
        return what == 1 ? faultPlace : NONE;
    }

    public int has(int what) {
        switch (what) {
            case 0:
                return shelf.p;
            case 1:
                return shelf.count;
            case 2:
                return Spot.howMany(shelf.p);
            case 3:
                return past.count;
            default:
                return NONE;
        }
    }

    // ---- curves

    public int letter(int curve, int i) {
        return shelf.letterOf(curve, i);
    }

    public int term(int curve, int i, int j) {
        Poly f = shelf.find(curve);
        return f == null || !Poly.fits(i, j) ? NONE : f.at(i, j);
    }

    public int degree(int curve) {
        Poly f = shelf.find(curve);
        return f == null ? NONE : f.top();
    }

    public int value(int curve, int point) {
        Poly f = shelf.find(curve);
        if (f == null || !spot.go(point, shelf.p)) {
            return NONE;
        }
        return spot.valueOf(f, shelf.p);
    }

    public int point(int curve, int k) {
        return choose(curve, k, TRAIT_ON);
    }

    public int order(int curve, int point) {
        return lookAt(curve, point) ? view.least() : NONE;
    }

    public int local(int curve, int point, int i, int j) {
        return lookAt(curve, point) && Poly.fits(i, j) ? view.poly.at(i, j) : NONE;
    }

    public int singular(int curve, int k) {
        return choose(curve, k, TRAIT_SINGULAR);
    }

    public int tangent(int curve, int point, int k, int what) {
        if (what < 0 || what > 1 || k < NONE || !lookAt(curve, point) || view.least() == 0) {
            return NONE;
        }
        int ways = 0;
        int together = 0;
        for (int way = 0; way <= shelf.p; way++) {
            int often = view.oftenTangent(way);
            if (often == 0) {
                continue;
            }
            if (ways == k) {
                return what == 0 ? way : often;
            }
            ways++;
            together += often;
        }
        if (k != NONE) {
            return NONE;
        }
        return what == 0 ? ways : together;
    }

    public int bend(int curve, int point) {
        return lookAt(curve, point) ? view.bendHere() : NONE;
    }

    public int flex(int curve, int k) {
        return choose(curve, k, TRAIT_FLEX);
    }

    public int genus(int curve) {
        Poly f = shelf.find(curve);
        if (f == null) {
            return NO_GENUS;
        }
        int n = f.top();
        int result = (n - 1) * (n - 2) / 2;
        int points = Spot.howMany(shelf.p);
        for (int q = 0; q < points; q++) {
            if (hasTrait(f, q, TRAIT_SINGULAR)) {
                int m = view.least();
                result -= m * (m - 1) / 2;
            }
        }
        return result;
    }

    // ---- two curves

    public int common(int a, int b) {
        Poly f = shelf.find(a);
        Poly g = shelf.find(b);
        return f == null || g == null ? NONE : sharing.find(f, g, shelf.p).top();
    }

    public int commonTerm(int a, int b, int i, int j) {
        Poly f = shelf.find(a);
        Poly g = shelf.find(b);
        if (f == null || g == null || !Poly.fits(i, j)) {
            return NONE;
        }
        return sharing.find(f, g, shelf.p).at(i, j);
    }

    public int times(int a, int b, int point) {
        Poly f = shelf.find(a);
        Poly g = shelf.find(b);
        if (f == null || g == null || !Spot.isPoint(point, shelf.p)) {
            return NONE;
        }
        sharing.find(f, g, shelf.p);
        return timesAt(f, g, point);
    }

    public int rules(int a, int b, int point, int kind) {
        if (kind < 0 || kind >= Reduction.KINDS) {
            return NONE;
        }
        return times(a, b, point) < 0 ? NONE : reduction.often[kind];
    }

    public int rule(int a, int b, int point, int k) {
        return times(a, b, point) < 0 ? NONE : reduction.kindOf(k);
    }

    public int size(int a, int b, int point) {
        Poly f = shelf.find(a);
        Poly g = shelf.find(b);
        if (f == null || g == null || !spot.go(point, shelf.p)) {
            return NONE;
        }
        view.look(f, spot, shelf.p);
        otherView.look(g, spot, shelf.p);
        return ring.sizeOf(view.poly, otherView.poly, shelf.p);
    }

    public int meet(int a, int b, int k, int what) {
        Poly f = shelf.find(a);
        Poly g = shelf.find(b);
        if (f == null || g == null || what < 0 || what > 1 || k < NONE) {
            return NONE;
        }
        sharing.find(f, g, shelf.p);
        if (k == NONE && what == 1) {
            return timesBetween(f, g, 0, Spot.howMany(shelf.p));
        }
        int points = Spot.howMany(shelf.p);
        int met = 0;
        for (int q = 0; q < points; q++) {
            if (!areBothOn(f, g, q)) {
                continue;
            }
            if (met == k) {
                return what == 0 ? q : timesAt(f, g, q);
            }
            met++;
        }
        return k == NONE ? met : NONE;
    }

    public int parts(int a, int b, int d) {
        Poly f = shelf.find(a);
        Poly g = shelf.find(b);
        if (f == null || g == null || d < 0 || d > MOST_PARTS) {
            return NONE;
        }
        int n = f.top();
        int m = g.top();
        // What both make alike are the multiples of their least common multiple.
        int multiple = n + m - sharing.find(f, g, shelf.p).top();
        return forms(d) - forms(d - n) - forms(d - m) + forms(d - multiple);
    }

    public int total(int a, int b, int what) {
        Poly f = shelf.find(a);
        Poly g = shelf.find(b);
        if (f == null || g == null || sharing.find(f, g, shelf.p).top() > 0) {
            return NONE;
        }
        int product = f.top() * g.top();
        int finite = shelf.p * shelf.p;
        switch (what) {
            case 0:
                return product;
            case 1:
                return ring.nearOf(f, g, shelf.p);
            case 2:
                return product - ring.nearOf(f, g, shelf.p);
            case 3:
                return timesBetween(f, g, 0, finite);
            case 4:
                return timesBetween(f, g, finite, Spot.howMany(shelf.p));
            default:
                return NONE;
        }
    }

    public int knot(int point, int what) {
        if (what < 0 || what > 1 || !Spot.isPoint(point, shelf.p)) {
            return NONE;
        }
        return what == 0 ? countOn(point) : coupleTimes(point);
    }

    public int most(int a, int b, int what) {
        Poly f = shelf.find(a);
        Poly g = shelf.find(b);
        if (f == null || g == null || what < 0 || what > 1) {
            return NONE;
        }
        sharing.find(f, g, shelf.p);
        int greatest = 0;
        int first = NONE;
        int points = Spot.howMany(shelf.p);
        for (int q = 0; q < points; q++) {
            int times = areBothOn(f, g, q) ? timesAt(f, g, q) : 0;
            if (times == ENDLESS) {
                return what == 0 ? ENDLESS : q;
            }
            if (times > greatest) {
                greatest = times;
                first = q;
            }
        }
        return what == 0 ? greatest : first;
    }

    // ---- acts

    public boolean move(int a, int b, int e, int c, int d, int f) {
        if (!maker.setMove(a, b, e, c, d, f, shelf.p)) {
            refuse(REFUSED_MOVE);
            return false;
        }
        past.keep(shelf);
        maker.moveAll(shelf);
        return true;
    }

    public int moved(int point, int a, int b, int e, int c, int d, int f) {
        // A MOVE has six numbers and P, as many as a method may take: the point comes apart.
        if (!spot.go(point, shelf.p) || !maker.setMove(a, b, e, c, d, f, shelf.p)) {
            return NONE;
        }
        return maker.whereTo(spot);
    }

    public int make(int a, int b, int how, int t) {
        if (shelf.count >= MOST_CURVES || !build(a, b, how, t) || maker.made.top() < 1) {
            refuse(REFUSED_MAKE);
            return NONE;
        }
        past.keep(shelf);
        return shelf.add(maker.made);
    }

    public int drop(int curve) {
        Poly f = shelf.find(curve);
        if (f == null) {
            refuse(REFUSED_MAKE);
            return NONE;
        }
        int n = f.top();
        past.keep(shelf);
        shelf.remove(curve);
        return n;
    }

    public boolean undo() {
        if (!past.back(shelf)) {
            refuse(REFUSED_UNDO);
            return false;
        }
        return true;
    }

    public int status(int what) {
        return what < 0 || what >= REFUSALS ? NONE : refused[what];
    }

    // ---- what the calls share

    private void refuse(int what) {
        if (what >= 0 && what < REFUSALS) {
            refused[what]++;
        }
    }

    private boolean lookAt(int curve, int point) {
        Poly f = shelf.find(curve);
        if (f == null || !spot.go(point, shelf.p)) {
            return false;
        }
        view.look(f, spot, shelf.p);
        return true;
    }

    private int choose(int curve, int k, int trait) {
        Poly f = shelf.find(curve);
        if (f == null || k < NONE) {
            return NONE;
        }
        int points = Spot.howMany(shelf.p);
        int found = 0;
        for (int q = 0; q < points; q++) {
            if (!hasTrait(f, q, trait)) {
                continue;
            }
            if (found == k) {
                return q;
            }
            found++;
        }
        return k == NONE ? found : NONE;
    }

    private boolean hasTrait(Poly f, int q, int trait) {
        if (!spot.go(q, shelf.p) || spot.valueOf(f, shelf.p) != 0) {
            return false;
        }
        if (trait == TRAIT_ON) {
            return true;
        }
        view.look(f, spot, shelf.p);
        if (trait == TRAIT_SINGULAR) {
            return view.least() >= 2;
        }
        int bend = view.bendHere();
        return bend == ENDLESS || bend >= 3;
    }

    /** TIMES at a POINT; the COMMON PART of the two must stand in sharing. */
    private int timesAt(Poly f, Poly g, int point) {
        if (!spot.go(point, shelf.p)) {
            return NONE;
        }
        if (spot.valueOf(sharing.part, shelf.p) == 0) {
            return ENDLESS;
        }
        view.look(f, spot, shelf.p);
        otherView.look(g, spot, shelf.p);
        return reduction.run(view.poly, otherView.poly, shelf.p);
    }

    private boolean areBothOn(Poly f, Poly g, int point) {
        return spot.go(point, shelf.p) && spot.valueOf(f, shelf.p) == 0
            && spot.valueOf(g, shelf.p) == 0;
    }

    private int timesBetween(Poly f, Poly g, int from, int to) {
        int sum = 0;
        for (int q = from; q < to; q++) {
            if (!areBothOn(f, g, q)) {
                continue;
            }
            int times = timesAt(f, g, q);
            if (times == ENDLESS) {
                return ENDLESS;
            }
            sum += times;
        }
        return sum;
    }

    private int countOn(int point) {
        int count = 0;
        for (int k = 0; k < shelf.count; k++) {
            if (value(k, point) == 0) {
                count++;
            }
        }
        return count;
    }

    private int coupleTimes(int point) {
        int sum = 0;
        for (int a = 0; a < shelf.count; a++) {
            for (int b = a + 1; b < shelf.count; b++) {
                Poly f = shelf.find(a);
                Poly g = shelf.find(b);
                if (f == null || g == null || !areBothOn(f, g, point)) {
                    continue;
                }
                sharing.find(f, g, shelf.p);
                int times = timesAt(f, g, point);
                if (times == ENDLESS) {
                    return ENDLESS;
                }
                sum += times;
            }
        }
        return sum;
    }

    /** How many FORMS of a DEGREE there are, as a dimension. */
    private static int forms(int d) {
        return d < 0 ? 0 : (d + 1) * (d + 2) / 2;
    }

    private boolean build(int a, int b, int how, int t) {
        switch (how) {
            case 0:
                return buildProduct(shelf.find(a), shelf.find(b));
            case 1:
                return buildMix(shelf.find(a), shelf.find(b), t);
            case 2:
                return buildCommon(shelf.find(a), shelf.find(b));
            case 3:
                return maker.lineThrough(a, b, shelf.p);
            case 4:
                return lookAt(a, b) && view.least() == 1
                    && maker.lineTangent(view.poly, spot, shelf.p);
            case 5:
                return buildDerivative(shelf.find(a), b);
            default:
                return false;
        }
    }

    private boolean buildProduct(Poly f, Poly g) {
        if (f == null || g == null || f.top() + g.top() > MOST_DEGREE) {
            return false;
        }
        maker.made.product(f, g, shelf.p);
        return true;
    }

    private boolean buildMix(Poly f, Poly g, int t) {
        if (f == null || g == null) {
            return false;
        }
        maker.made.copy(f);
        maker.made.add(g, mod(t, shelf.p), shelf.p);
        return true;
    }

    private boolean buildCommon(Poly f, Poly g) {
        if (f == null || g == null) {
            return false;
        }
        maker.made.copy(sharing.find(f, g, shelf.p));
        return true;
    }

    private boolean buildDerivative(Poly f, int by) {
        if (f == null || by < 0 || by > 1) {
            return false;
        }
        maker.derive(f, by == 0, shelf.p);
        return true;
    }

    /** A number modulo P, 0 or more. */
    private static int mod(int number, int p) {
        if (p < 2) {
            return 0;
        }
        int rest = number % p;
        return rest < 0 ? rest + p : rest;
    }

    private static int power(int base, int n, int p) {
        int result = 1;
        for (int k = 0; k < n && k < MOST_DEGREE; k++) {
            result = mod(result * base, p);
        }
        return result;
    }

    /** Of a number from 1 on, below P; 0 of another one. */
    private static int inverse(int number, int p) {
        for (int k = 1; k < p && p > 1; k++) {
            if (number * k % p == 1) {
                return k;
            }
        }
        return 0;
    }

    /** A POLYNOMIAL of DEGREE 4 at most: what the TERM i, j has stands at i times SIDE and j. */
    private static final class Poly {
        static final int SIDE = MOST_DEGREE + 1;

        private final int[] cells = new int[SIDE * SIDE];

        static boolean fits(int i, int j) {
            return i >= 0 && j >= 0 && i <= MOST_DEGREE && j <= MOST_DEGREE - i;
        }

        int at(int i, int j) {
            return fits(i, j) ? cells[i * SIDE + j] : 0;
        }

        void put(int i, int j, int number) {
            if (fits(i, j)) {
                cells[i * SIDE + j] = number;
            }
        }

        void increase(int i, int j, int number, int p) {
            put(i, j, mod(at(i, j) + number, p));
        }

        /** DEGREE; below 0 of the POLYNOMIAL 0. */
        int top() {
            int top = -1;
            for (int i = 0; i <= MOST_DEGREE; i++) {
                for (int j = 0; j <= MOST_DEGREE - i; j++) {
                    if (cells[i * SIDE + j] != 0) {
                        top = Math.max(top, i + j);
                    }
                }
            }
            return top;
        }

        /** The greatest i of a TERM with i and j together d; below 0 without one. */
        int leadAt(int d) {
            for (int i = Math.min(d, MOST_DEGREE); i >= 0 && d <= MOST_DEGREE; i--) {
                if (cells[i * SIDE + d - i] != 0) {
                    return i;
                }
            }
            return -1;
        }

        void setTo(int number) {
            for (int k = 0; k < cells.length; k++) {
                cells[k] = k == 0 ? number : 0;
            }
        }

        void copy(Poly from) {
            System.arraycopy(from.cells, 0, cells, 0, cells.length);
        }

        void add(Poly other, int often, int p) {
            addShifted(other, 0, 0, often, p);
        }

        /** More by often times x to the right, y to the up, times another one. */
        void addShifted(Poly other, int right, int up, int often, int p) {
            if (p < 2 || right < 0 || up < 0) {
                return;
            }
            int most = MOST_DEGREE - right - up;
            for (int i = 0; i <= most; i++) {
                for (int j = 0; j <= most - i; j++) {
                    int number = other.cells[i * SIDE + j];
                    if (number != 0) {
                        int at = (i + right) * SIDE + j + up;
                        cells[at] = (cells[at] + often * number) % p;
                    }
                }
            }
        }

        /** TERMS above 4 are left out: who calls looks at the DEGREES first. */
        void product(Poly a, Poly b, int p) {
            setTo(0);
            for (int i = 0; i <= MOST_DEGREE; i++) {
                for (int j = 0; j <= MOST_DEGREE - i; j++) {
                    if (a.cells[i * SIDE + j] != 0) {
                        addShifted(b, i, j, a.cells[i * SIDE + j], p);
                    }
                }
            }
        }

        /** What comes of a division that leaves no rest; the POLYNOMIAL rest is used up by it. */
        void quotient(Poly rest, Poly divisor, int p) {
            setTo(0);
            int low = divisor.top();
            int leadX = divisor.leadAt(low);
            int inverse = inverse(divisor.at(leadX, low - leadX), p);
            for (int d = rest.top() - low; d >= 0; d--) {
                for (int i = d; i >= 0; i--) {
                    int j = d - i;
                    int number = mod(inverse * rest.at(leadX + i, low - leadX + j), p);
                    put(i, j, number);
                    rest.addShifted(divisor, i, j, p - number, p);
                }
            }
        }

        /** The first TERM, by i and j together and then by i, gets 1. */
        void normalize(int p) {
            int n = top();
            int leadX = leadAt(n);
            int inverse = inverse(at(leadX, n - leadX), p);
            for (int k = 0; k < cells.length; k++) {
                cells[k] = mod(cells[k] * inverse, p);
            }
        }
    }

    /** P and the CURVES with their NAMES. */
    private static final class Shelf {
        int p = FIRST_P;
        int count = 0;
        private final Poly[] polys = new Poly[MOST_CURVES];
        private final int[] letters = new int[MOST_CURVES * MOST_LETTERS];

        Shelf() {
            for (int k = 0; k < MOST_CURVES; k++) {
                polys[k] = new Poly();
            }
        }

        Poly find(int curve) {
            return curve < 0 || curve >= count || curve >= MOST_CURVES ? null : polys[curve];
        }

        int letterOf(int curve, int i) {
            if (find(curve) == null || i < 0 || i >= MOST_LETTERS) {
                return NONE;
            }
            return letters[curve * MOST_LETTERS + i];
        }

        void copy(Shelf from) {
            p = from.p;
            count = from.count;
            for (int k = 0; k < MOST_CURVES; k++) {
                polys[k].copy(from.polys[k]);
            }
            System.arraycopy(from.letters, 0, letters, 0, letters.length);
        }

        /** A CURVE more without a NAME: its number. */
        int add(Poly poly) {
            if (count >= MOST_CURVES) {
                return NONE;
            }
            polys[count].copy(poly);
            for (int i = 0; i < MOST_LETTERS; i++) {
                setLetter(i, 0);
            }
            count++;
            return count - 1;
        }

        /** A letter of the CURVE that comes next. */
        void setLetter(int i, int number) {
            if (count < MOST_CURVES && i >= 0 && i < MOST_LETTERS) {
                letters[count * MOST_LETTERS + i] = number;
            }
        }

        void remove(int curve) {
            if (find(curve) == null) {
                return;
            }
            for (int k = curve; k < count - 1 && k < MOST_CURVES - 1; k++) {
                polys[k].copy(polys[k + 1]);
                System.arraycopy(letters, (k + 1) * MOST_LETTERS, letters, k * MOST_LETTERS,
                    MOST_LETTERS);
            }
            count--;
        }
    }

    /** What stood ahead of each of the last ACTS. */
    private static final class Past {
        int count = 0;
        private int next = 0;
        private final Shelf[] shelves = new Shelf[MOST_ACTS];

        Past() {
            for (int k = 0; k < MOST_ACTS; k++) {
                shelves[k] = new Shelf();
            }
        }

        void keep(Shelf shelf) {
            shelves[around(next)].copy(shelf);
            next = around(next + 1);
            count = Math.min(count + 1, MOST_ACTS);
        }

        boolean back(Shelf shelf) {
            if (count == 0) {
                return false;
            }
            next = around(next - 1);
            shelf.copy(shelves[next]);
            count--;
            return true;
        }

        /** Behind the last of the shelves comes the first one again. */
        private static int around(int place) {
            return Math.floorMod(place, MOST_ACTS);
        }

        void forget() {
            count = 0;
        }
    }

    /** The tape, and how its text is read. */
    private static final class Reader {
        private static final int LINE_END = 10;
        private static final long GREATEST_NUMBER = 2147483647L;
        private static final int[] PRIMES = {2, 3, 5, 7, 11, 13, 17, 19, 23, 29, 31};

        int length = 0;
        int faultKind = 0;
        int faultPlace = NONE;
        final Shelf draft = new Shelf();
        private final int[] tape = new int[MOST_TAPE];
        private final Poly[] sums = new Poly[MOST_OPEN + 1];
        private final Poly[] products = new Poly[MOST_OPEN + 1];
        private final boolean[] isMinus = new boolean[MOST_OPEN + 1];
        private final int[] starts = new int[MOST_OPEN + 1];
        private final Poly atom = new Poly();
        private final Poly powered = new Poly();
        private final Poly scratch = new Poly();
        private int place = 0;

        Reader() {
            for (int k = 0; k <= MOST_OPEN; k++) {
                sums[k] = new Poly();
                products[k] = new Poly();
            }
        }

        boolean hasRoomForFive() {
            return length <= MOST_TAPE - 20;
        }

        void append(int number) {
            for (int shift = 24; shift >= 0; shift -= 8) {
                if (length < MOST_TAPE) {
                    tape[length] = (number >>> shift) & 255;
                    length++;
                }
            }
        }

        boolean readText() {
            faultKind = 0;
            faultPlace = NONE;
            place = 0;
            draft.p = FIRST_P;
            draft.count = 0;
            skipBlanks();
            if (standsWord("field") && !readField()) {
                return false;
            }
            for (int k = 0; k <= length; k++) {
                skipBlanks();
                if (place >= length) {
                    return true;
                }
                if (!readCurve()) {
                    return false;
                }
            }
            return true;
        }

        private boolean readField() {
            place += 5;
            if (isDigit(byteAt(place))) {
                return fail(FAULT_FORM, place);
            }
            skipBlanks();
            int start = place;
            if (!isDigit(byteAt(start))) {
                return fail(FAULT_FORM, start);
            }
            int number = readNumber();
            for (int k = 0; k < PRIMES.length; k++) {
                if (PRIMES[k] == number) {
                    draft.p = number;
                    return expect(';');
                }
            }
            return fail(FAULT_NUMBER, start);
        }

        private boolean readCurve() {
            if (!standsWord("curve")) {
                return fail(FAULT_FORM, place);
            }
            if (draft.count >= MOST_CURVES) {
                return fail(FAULT_MUCH, place);
            }
            place += 5;
            skipBlanks();
            int name = place;
            if (!readName() || !expect('=') || !readSum() || !expect(';')) {
                return false;
            }
            if (sums[0].top() < 1) {
                return fail(FAULT_FLAT, name);
            }
            draft.polys[draft.count].copy(sums[0]);
            draft.count++;
            return true;
        }

        private boolean readName() {
            int start = place;
            int letters = wordEnd(start) - start;
            if (letters < 1 || letters > MOST_LETTERS || standsWord("field") || standsWord("curve")
                || standsWord("x") || standsWord("y")) {
                return fail(FAULT_FORM, start);
            }
            for (int i = 0; i < MOST_LETTERS; i++) {
                draft.setLetter(i, i < letters ? byteAt(start + i) - 'a' + 1 : 0);
            }
            if (isNameTaken()) {
                return fail(FAULT_NAME, start);
            }
            place = start + letters;
            return true;
        }

        private boolean isNameTaken() {
            int own = draft.count * MOST_LETTERS;
            for (int curve = 0; curve < draft.count && draft.count < MOST_CURVES; curve++) {
                int alike = 0;
                for (int i = 0; i < MOST_LETTERS; i++) {
                    if (draft.letters[own + i] == draft.letters[curve * MOST_LETTERS + i]) {
                        alike++;
                    }
                }
                if (alike == MOST_LETTERS) {
                    return true;
                }
            }
            return false;
        }

        /** SUM, what it comes to stands in sums; a list of what is open, as ( may stand deep. */
        private boolean readSum() {
            int open = 0;
            begin(open);
            for (int k = 0; k <= length; k++) {
                skipBlanks();
                int start = place;
                if (take('(')) {
                    if (open >= MOST_OPEN) {
                        return fail(FAULT_MUCH, start);
                    }
                    starts[open] = start;
                    open++;
                    begin(open);
                    continue;
                }
                if (!readAtom() || !readFactor(open, start)) {
                    return false;
                }
                while (open > 0 && take(')')) {
                    closeTerm(open);
                    atom.copy(sums[open]);
                    open--;
                    if (!readFactor(open, starts[open])) {
                        return false;
                    }
                }
                if (take('*')) {
                    continue;
                }
                closeTerm(open);
                isMinus[open] = take('-');
                if (!isMinus[open] && !take('+')) {
                    return open == 0 || fail(FAULT_FORM, place);
                }
            }
            return false;
        }

        private void begin(int open) {
            sums[open].setTo(0);
            products[open].setTo(1);
            isMinus[open] = take('-');
        }

        private void closeTerm(int open) {
            sums[open].add(products[open], isMinus[open] ? draft.p - 1 : 1, draft.p);
            products[open].setTo(1);
        }

        /** The FACTOR whose ATOM stands in atom: its power is read, and the product has it. */
        private boolean readFactor(int open, int start) {
            int power = 1;
            if (take('^')) {
                skipBlanks();
                int at = place;
                if (!isDigit(byteAt(at))) {
                    return fail(FAULT_FORM, at);
                }
                power = readNumber();
                if (power < 0 || power > MOST_DEGREE) {
                    return fail(FAULT_NUMBER, at);
                }
            }
            powered.setTo(1);
            for (int k = 0; k < power; k++) {
                if (!multiply(powered, atom)) {
                    return fail(FAULT_MUCH, start);
                }
            }
            return multiply(products[open], powered) || fail(FAULT_MUCH, start);
        }

        /** ATOM without (; what it comes to stands in atom. */
        private boolean readAtom() {
            int start = place;
            if (isDigit(byteAt(start))) {
                int number = readNumber();
                atom.setTo(mod(number, draft.p));
                return number >= 0 || fail(FAULT_NUMBER, start);
            }
            boolean isX = standsWord("x");
            if (!isX && !standsWord("y")) {
                return fail(FAULT_FORM, start);
            }
            atom.setTo(0);
            atom.put(isX ? 1 : 0, isX ? 0 : 1, 1);
            place++;
            return true;
        }

        /** A number with all its digits, below 0 if it is too great. */
        private int readNumber() {
            long number = 0;
            while (place < length && isDigit(byteAt(place))) {
                number = Math.min(number * 10 + byteAt(place) - '0', GREATEST_NUMBER + 1);
                place++;
            }
            return number > GREATEST_NUMBER ? -1 : (int) number;
        }

        /** False, and nothing is done, if the product has a DEGREE above 4. */
        private boolean multiply(Poly product, Poly factor) {
            int first = product.top();
            int second = factor.top();
            if (first >= 0 && second >= 0 && first + second > MOST_DEGREE) {
                return false;
            }
            scratch.product(product, factor, draft.p);
            product.copy(scratch);
            return true;
        }

        private boolean fail(int kind, int at) {
            faultKind = kind;
            faultPlace = at;
            return false;
        }

        private boolean expect(int sign) {
            return take(sign) || fail(FAULT_FORM, place);
        }

        private boolean take(int sign) {
            skipBlanks();
            if (byteAt(place) != sign) {
                return false;
            }
            place++;
            return true;
        }

        private void skipBlanks() {
            while (place < length && (byteAt(place) == LINE_END || byteAt(place) == ' ')) {
                place++;
            }
        }

        private boolean standsWord(String word) {
            if (wordEnd(place) - place != word.length()) {
                return false;
            }
            for (int i = 0; i < word.length(); i++) {
                if (byteAt(place + i) != word.charAt(i)) {
                    return false;
                }
            }
            return true;
        }

        private int wordEnd(int start) {
            int at = start;
            while (at < length && byteAt(at) >= 'a' && byteAt(at) <= 'z') {
                at++;
            }
            return at;
        }

        private static boolean isDigit(int sign) {
            return sign >= '0' && sign <= '9';
        }

        /** Below 0 where the tape has none. */
        private int byteAt(int at) {
            return at >= 0 && at < length && at < MOST_TAPE ? tape[at] : -1;
        }
    }

    /** A POINT x : y : z, by its number. */
    private static final class Spot {
        int x = 0;
        int y = 0;
        int z = 1;

        static int howMany(int p) {
            return p * p + p + 1;
        }

        static boolean isPoint(int number, int p) {
            return number >= 0 && number < howMany(p);
        }

        boolean go(int number, int p) {
            if (p < 2 || !isPoint(number, p)) {
                return false;
            }
            if (number < p * p) {
                x = number / p;
                y = number % p;
                z = 1;
            } else {
                boolean isLast = number == p * p + p;
                x = isLast ? 0 : 1;
                y = isLast ? 1 : number - p * p;
                z = 0;
            }
            return true;
        }

        int valueOf(Poly f, int p) {
            if (p < 2) {
                return 0;
            }
            int n = z == 0 ? f.top() : -1;
            int sum = 0;
            for (int i = MOST_DEGREE; i >= 0; i--) {
                int inner = 0;
                for (int j = MOST_DEGREE - i; j >= 0; j--) {
                    inner = inner * y % p;
                    if (z == 1 || i + j == n) {
                        inner += f.cells[i * Poly.SIDE + j];
                    }
                }
                sum = (sum * x + inner) % p;
            }
            return sum;
        }
    }

    /** A CURVE as it looks at a POINT: its LOCAL one. */
    private static final class View {
        private static final int[] CHOICES = {
            1, 0, 0, 0, 0,
            1, 1, 0, 0, 0,
            1, 2, 1, 0, 0,
            1, 3, 3, 1, 0,
            1, 4, 6, 4, 1};

        final Poly poly = new Poly();
        private final int[] lowest = new int[MOST_DEGREE + 1];
        private int p = FIRST_P;

        void look(Poly f, Spot spot, int prime) {
            p = prime;
            poly.setTo(0);
            int n = f.top();
            for (int i = 0; i <= MOST_DEGREE; i++) {
                for (int j = 0; j <= MOST_DEGREE - i; j++) {
                    int number = f.at(i, j);
                    if (number == 0) {
                        continue;
                    }
                    if (spot.z == 1) {
                        addNear(number, i, j, spot);
                    } else {
                        addFar(number, i, j, n, spot);
                    }
                }
            }
        }

        private void addNear(int number, int i, int j, Spot spot) {
            for (int a = 0; a <= i; a++) {
                int left = mod(number * shifted(spot.x, i, a), p);
                for (int b = 0; b <= j; b++) {
                    poly.increase(a, b, left * shifted(spot.y, j, b), p);
                }
            }
        }

        private void addFar(int number, int i, int j, int n, Spot spot) {
            if (spot.x == 0) {
                poly.increase(i, n - i - j, number, p);
                return;
            }
            for (int b = 0; b <= j; b++) {
                poly.increase(b, n - i - j, number * shifted(spot.y, j, b), p);
            }
        }

        /** What the power k has in the n-th power of by and a letter. */
        private int shifted(int by, int n, int k) {
            if (!Poly.fits(n, 0) || !Poly.fits(k, 0)) {
                return 0;
            }
            return mod(CHOICES[n * Poly.SIDE + k] * power(by, n - k, p), p);
        }

        /** ORDER. */
        int least() {
            for (int d = 0; d <= MOST_DEGREE; d++) {
                if (poly.leadAt(d) >= 0) {
                    return d;
                }
            }
            return MOST_DEGREE;
        }

        /** How often a WAY is TANGENT. */
        int oftenTangent(int way) {
            int n = least();
            for (int j = 0; j <= n; j++) {
                lowest[j] = poly.at(n - j, j);
            }
            int often = 0;
            if (way == p) {
                while (often < n && lowest[n - often] == 0) {
                    often++;
                }
                return often;
            }
            while (often < n && divideOnce(n - often, way)) {
                often++;
            }
            return often;
        }

        /** Whether what stands in lowest, of the DEGREE n, can be divided by v less way times u: it is. */
        private boolean divideOnce(int n, int way) {
            int carry = 0;
            for (int j = n; j >= 0 && j <= MOST_DEGREE; j--) {
                carry = mod(carry * way + lowest[j], p);
            }
            if (carry != 0) {
                return false;
            }
            for (int j = n; j >= 0 && j <= MOST_DEGREE; j--) {
                int old = lowest[j];
                lowest[j] = carry;
                carry = mod(carry * way + old, p);
            }
            return true;
        }

        int bendHere() {
            if (least() != 1) {
                return NONE;
            }
            int alongU = mod(-poly.at(0, 1), p);
            int alongV = poly.at(1, 0);
            for (int d = 2; d <= MOST_DEGREE; d++) {
                int sum = 0;
                for (int i = 0; i <= d; i++) {
                    int powers = power(alongU, i, p) * power(alongV, d - i, p);
                    sum = mod(sum + poly.at(i, d - i) * powers, p);
                }
                if (sum != 0) {
                    return d;
                }
            }
            return ENDLESS;
        }
    }

    /** Rows of numbers modulo P, of which each new one is cleared of all that the earlier ones make. */
    private static final class Space {
        static final int MOST = 94;

        private final int[][] rows = new int[MOST][MOST];
        private final boolean[] known = new boolean[MOST];
        private int width = 0;
        private int limit = 0;
        private int p = FIRST_P;

        /** Only the first columns (below the limit) count; the others go along. */
        void begin(int columns, int counting, int prime) {
            width = Math.min(columns, MOST);
            limit = Math.min(counting, width);
            p = prime;
            for (int c = 0; c < MOST; c++) {
                known[c] = false;
            }
        }

        /** True if the line is none that the rows make; else it is 0 now where it counts. */
        boolean add(int[] line) {
            if (p < 2 || line.length < width) {
                return false;
            }
            for (int c = 0; c < limit; c++) {
                int number = line[c];
                if (number == 0) {
                    continue;
                }
                if (!known[c]) {
                    keep(line, c);
                    return true;
                }
                int often = p - number;
                int[] row = rows[c];
                for (int k = c; k < width; k++) {
                    line[k] = (line[k] + often * row[k]) % p;
                }
            }
            return false;
        }

        private void keep(int[] line, int column) {
            int inverse = inverse(line[column], p);
            for (int k = 0; k < width; k++) {
                rows[column][k] = mod(line[k] * inverse, p);
            }
            known[column] = true;
        }
    }

    /** The COMMON PART of two CURVES. */
    private static final class Sharing {
        private static final int PRODUCT_TERMS = 45;
        private static final int TERMS = 15;

        final Poly part = new Poly();
        private final Poly cofactor = new Poly();
        private final Poly rest = new Poly();
        private final int[] line = new int[Space.MOST];
        private final Space space;

        Sharing(Space shared) {
            space = shared;
        }

        /** The least multiple of f that g also makes is f times g by the COMMON PART: so that is found. */
        Poly find(Poly f, Poly g, int p) {
            space.begin(PRODUCT_TERMS + TERMS, PRODUCT_TERMS, p);
            int n = f.top();
            for (int d = 0; d <= n; d++) {
                for (int j = 0; j <= d; j++) {
                    setLine(g, d - j, j);
                    space.add(line);
                }
            }
            findCofactor(f, g.top());
            rest.copy(g);
            part.quotient(rest, cofactor, p);
            part.normalize(p);
            return part;
        }

        private void findCofactor(Poly f, int most) {
            cofactor.setTo(1);
            for (int d = 0; d <= most; d++) {
                for (int j = 0; j <= d; j++) {
                    setLine(f, d - j, j);
                    setColumn(PRODUCT_TERMS + column(d - j, j), 1);
                    if (!space.add(line)) {
                        takeCofactor();
                        return;
                    }
                }
            }
        }

        private void takeCofactor() {
            for (int i = 0; i <= MOST_DEGREE; i++) {
                for (int j = 0; j <= MOST_DEGREE - i; j++) {
                    cofactor.put(i, j, line[PRODUCT_TERMS + column(i, j)]);
                }
            }
        }

        private void setLine(Poly f, int right, int up) {
            for (int k = 0; k < line.length; k++) {
                line[k] = 0;
            }
            for (int i = 0; i <= MOST_DEGREE; i++) {
                for (int j = 0; j <= MOST_DEGREE - i; j++) {
                    setColumn(column(i + right, j + up), f.at(i, j));
                }
            }
        }

        private void setColumn(int column, int number) {
            if (column >= 0 && column < line.length && number != 0) {
                line[column] = number;
            }
        }

        private static int column(int i, int j) {
            int d = i + j;
            return d * (d + 1) / 2 + j;
        }
    }

    /** TIMES at a POINT by the RULES, and which RULES it took. */
    private static final class Reduction {
        static final int KINDS = 4;
        private static final int END = 0;
        private static final int SPLIT = 1;
        private static final int SWAP = 2;
        private static final int CUT = 3;
        private static final int TOP = 16;
        private static final int SIDE = TOP + 1;
        // 16 SPLITS at most (so often two CURVES can meet), ahead of each at most 32 CUTS and 33 SWAPS.
        private static final int MOST_STEPS = 2048;

        final int[] often = new int[KINDS];
        private final int[] kinds = new int[MOST_STEPS];
        private int steps = 0;
        private int[] f = new int[SIDE * SIDE];
        private int[] g = new int[SIDE * SIDE];
        private int p = FIRST_P;

        int kindOf(int k) {
            return k < 0 || k >= steps || k >= MOST_STEPS ? NONE : kinds[k];
        }

        int run(Poly first, Poly second, int prime) {
            p = prime;
            load(f, first);
            load(g, second);
            for (int k = 0; k < KINDS; k++) {
                often[k] = 0;
            }
            int sum = 0;
            for (steps = 0; steps < MOST_STEPS; steps++) {
                int kind = whichFits();
                kinds[steps] = kind;
                often[kind]++;
                switch (kind) {
                    case SPLIT:
                        sum += Math.max(leastPure(g), 0);
                        split();
                        break;
                    case SWAP:
                        swap();
                        break;
                    case CUT:
                        cut();
                        break;
                    default:
                        steps++;
                        return sum;
                }
            }
            return sum;
        }

        private static void load(int[] into, Poly from) {
            for (int k = 0; k < into.length; k++) {
                into[k] = 0;
            }
            for (int i = 0; i <= MOST_DEGREE; i++) {
                for (int j = 0; j <= MOST_DEGREE - i; j++) {
                    into[i * SIDE + j] = from.at(i, j);
                }
            }
        }

        private int whichFits() {
            if (f[0] != 0 || g[0] != 0) {
                return END;
            }
            int greatestF = greatestPure(f);
            int greatestG = greatestPure(g);
            if (greatestF < 0) {
                return SPLIT;
            }
            return greatestG < 0 || greatestF > greatestG ? SWAP : CUT;
        }

        /** The greatest i of TERMS without v; below 0 without any. */
        private static int greatestPure(int[] of) {
            for (int i = TOP; i >= 0; i--) {
                if (of[i * SIDE] != 0) {
                    return i;
                }
            }
            return -1;
        }

        private static int leastPure(int[] of) {
            for (int i = 0; i <= TOP; i++) {
                if (of[i * SIDE] != 0) {
                    return i;
                }
            }
            return -1;
        }

        private void split() {
            for (int i = 0; i <= TOP; i++) {
                for (int j = 0; j < TOP; j++) {
                    f[i * SIDE + j] = f[i * SIDE + j + 1];
                }
                f[i * SIDE + TOP] = 0;
            }
        }

        private void swap() {
            int[] old = f;
            f = g;
            g = old;
        }

        private void cut() {
            int greatestF = greatestPure(f);
            int greatestG = greatestPure(g);
            if (p < 2 || greatestF < 0 || greatestG < greatestF) {
                return;
            }
            int right = greatestG - greatestF;
            int ratio = mod(g[greatestG * SIDE] * inverse(f[greatestF * SIDE], p), p);
            int minus = p - ratio;
            for (int i = right; i <= TOP; i++) {
                for (int j = 0; j <= TOP - i; j++) {
                    int number = f[(i - right) * SIDE + j];
                    if (number != 0) {
                        g[i * SIDE + j] = (g[i * SIDE + j] + minus * number) % p;
                    }
                }
            }
        }
    }

    /** Rings of POLYNOMIALS up to a DEGREE, by two CURVES: what is left, as dimensions. */
    private static final class Ring {
        private static final int LOCAL_TOP = 16;
        private static final int FORM_TOP = 24;
        private static final int NEAR_TOP = 8;
        private static final int SIDE = FORM_TOP + 1;

        private final Space space;
        private final int[] row = new int[SIDE * SIDE];
        private final int[] columns = new int[SIDE * SIDE];
        private final int[] line = new int[Space.MOST];
        private Poly divisor = new Poly();
        private int p = FIRST_P;
        private int top = FORM_TOP;
        private boolean isLocal = false;
        private int leadX = 0;
        private int leadY = 0;
        private int width = 0;

        Ring(Space shared) {
            space = shared;
        }

        int sizeOf(Poly f, Poly g, int prime) {
            begin(f, LOCAL_TOP, true, prime);
            return width - addMultiples(g, LOCAL_TOP);
        }

        /** FORMS of DEGREE 24 are POLYNOMIALS up to 24, those with z to the 16 the ones up to 8. */
        int nearOf(Poly f, Poly g, int prime) {
            begin(f, FORM_TOP, false, prime);
            addMultiples(g, FORM_TOP - g.top());
            int more = 0;
            for (int i = 0; i <= NEAR_TOP; i++) {
                for (int j = 0; j <= NEAR_TOP - i; j++) {
                    int column = columns[i * SIDE + j];
                    if (column >= 0) {
                        clearLine();
                        line[column] = 1;
                        more += space.add(line) ? 1 : 0;
                    }
                }
            }
            return more;
        }

        /**
         * The multiples of f need no rows: the TERMS that its lead divides go by them, and of the others
         * each has a column. The lead is a TERM that no other one comes ahead of: in a local ring it has
         * the least i and j together, else the greatest.
         */
        private void begin(Poly f, int most, boolean local, int prime) {
            divisor = f;
            top = most;
            isLocal = local;
            p = prime;
            findLead();
            width = 0;
            for (int i = 0; i <= FORM_TOP; i++) {
                for (int j = 0; j <= FORM_TOP - i; j++) {
                    boolean isFree = i + j <= top && (i < leadX || j < leadY) && width < Space.MOST;
                    columns[i * SIDE + j] = isFree ? width : NONE;
                    width += isFree ? 1 : 0;
                }
            }
            space.begin(width, width, p);
        }

        private void findLead() {
            leadX = 0;
            leadY = 0;
            for (int k = 0; k <= MOST_DEGREE; k++) {
                int d = isLocal ? k : MOST_DEGREE - k;
                int lead = divisor.leadAt(d);
                if (lead >= 0) {
                    leadX = lead;
                    leadY = d - lead;
                    return;
                }
            }
        }

        /** How many more dimensions the multiples of g make, by TERMS up to a DEGREE that have columns. */
        private int addMultiples(Poly g, int most) {
            int more = 0;
            for (int i = 0; i <= most; i++) {
                for (int j = 0; j <= most - i && i <= FORM_TOP && j <= FORM_TOP - i; j++) {
                    if (columns[i * SIDE + j] >= 0) {
                        setRow(g, i, j);
                        reduceRow();
                        more += addRow() ? 1 : 0;
                    }
                }
            }
            return more;
        }

        private void setRow(Poly g, int right, int up) {
            for (int k = 0; k < row.length; k++) {
                row[k] = 0;
            }
            addToRow(g, right, up, 1);
        }

        private void addToRow(Poly g, int right, int up, int often) {
            if (p < 2 || right < 0 || up < 0) {
                return;
            }
            for (int i = 0; i <= MOST_DEGREE && i + right <= top; i++) {
                for (int j = 0; j <= MOST_DEGREE - i && i + right + j + up <= top; j++) {
                    int number = g.cells[i * Poly.SIDE + j];
                    if (number != 0) {
                        int at = (i + right) * SIDE + j + up;
                        row[at] = (row[at] + often * number) % p;
                    }
                }
            }
        }

        private void reduceRow() {
            int inverse = inverse(divisor.at(leadX, leadY), p);
            for (int k = 0; k <= top; k++) {
                int d = isLocal ? k : top - k;
                for (int i = d - leadY; i >= leadX; i--) {
                    int number = row[i * SIDE + d - i];
                    if (number != 0) {
                        int often = mod(-number * inverse, p);
                        addToRow(divisor, i - leadX, d - i - leadY, often);
                    }
                }
            }
        }

        private boolean addRow() {
            clearLine();
            for (int i = 0; i <= top; i++) {
                for (int j = 0; j <= top - i; j++) {
                    int column = columns[i * SIDE + j];
                    if (column >= 0) {
                        line[column] = row[i * SIDE + j];
                    }
                }
            }
            return space.add(line);
        }

        private void clearLine() {
            for (int k = 0; k < line.length; k++) {
                line[k] = 0;
            }
        }
    }

    /** MOVES, and CURVES that are MADE. */
    private static final class Maker {
        final Poly made = new Poly();
        private final Poly[] powersX = new Poly[MOST_DEGREE + 1];
        private final Poly[] powersY = new Poly[MOST_DEGREE + 1];
        private final Poly[] results = new Poly[MOST_CURVES];
        private final Poly scratch = new Poly();
        private final Poly newX = new Poly();
        private final Poly newY = new Poly();
        private final Spot first = new Spot();
        private final Spot second = new Spot();
        private int p = FIRST_P;

        Maker() {
            for (int k = 0; k <= MOST_DEGREE; k++) {
                powersX[k] = new Poly();
                powersY[k] = new Poly();
            }
            for (int k = 0; k < MOST_CURVES; k++) {
                results[k] = new Poly();
            }
        }

        /** False if the MOVE can't be. */
        boolean setMove(int a, int b, int e, int c, int d, int f, int prime) {
            p = prime;
            setLinear(newX, mod(a, p), mod(b, p), mod(e, p));
            setLinear(newY, mod(c, p), mod(d, p), mod(f, p));
            return determinant() != 0;
        }

        private int determinant() {
            return mod(newX.at(1, 0) * newY.at(0, 1) - newX.at(0, 1) * newY.at(1, 0), p);
        }

        private static void setLinear(Poly poly, int x, int y, int one) {
            poly.setTo(one);
            poly.put(1, 0, x);
            poly.put(0, 1, y);
        }

        void moveAll(Shelf shelf) {
            setPowers(powersX, newX);
            setPowers(powersY, newY);
            for (int k = 0; k < MOST_CURVES; k++) {
                results[k].setTo(0);
            }
            for (int i = 0; i <= MOST_DEGREE; i++) {
                for (int j = 0; j <= MOST_DEGREE - i; j++) {
                    scratch.product(powersX[i], powersY[j], p);
                    for (int k = 0; k < shelf.count && k < MOST_CURVES; k++) {
                        results[k].add(scratch, shelf.polys[k].at(i, j), p);
                    }
                }
            }
            for (int k = 0; k < shelf.count && k < MOST_CURVES; k++) {
                shelf.polys[k].copy(results[k]);
            }
        }

        private void setPowers(Poly[] powers, Poly base) {
            powers[0].setTo(1);
            for (int k = 1; k <= MOST_DEGREE; k++) {
                powers[k].product(powers[k - 1], base, p);
            }
        }

        /** The POINT that the MOVE which is set brings to this one. */
        int whereTo(Spot spot) {
            int x = spot.x - spot.z * newX.at(0, 0);
            int y = spot.y - spot.z * newY.at(0, 0);
            int inverse = inverse(determinant(), p);
            int left = mod(inverse * mod(newY.at(0, 1) * x - newX.at(0, 1) * y, p), p);
            int right = mod(inverse * mod(newX.at(1, 0) * y - newY.at(1, 0) * x, p), p);
            if (spot.z == 1) {
                return left * p + right;
            }
            if (left == 0) {
                return p * p + p;
            }
            return p * p + mod(right * inverse(left, p), p);
        }

        boolean lineThrough(int a, int b, int prime) {
            p = prime;
            if (a == b || !first.go(a, p) || !second.go(b, p)) {
                return false;
            }
            int x = first.y * second.z - first.z * second.y;
            int y = first.z * second.x - first.x * second.z;
            int one = first.x * second.y - first.y * second.x;
            return setLine(x, y, one);
        }

        /** By the TERMS u and v of the LOCAL one at the POINT, as what u and v are at it. */
        boolean lineTangent(Poly local, Spot spot, int prime) {
            p = prime;
            int u = local.at(1, 0);
            int v = local.at(0, 1);
            if (spot.z == 1) {
                return setLine(u, v, -u * spot.x - v * spot.y);
            }
            if (spot.x == 1) {
                return setLine(-u * spot.y, u, v);
            }
            return setLine(u, 0, v);
        }

        private boolean setLine(int x, int y, int one) {
            setLinear(made, mod(x, p), mod(y, p), mod(one, p));
            if (made.top() < 1) {
                return false;
            }
            made.normalize(p);
            return true;
        }

        void derive(Poly f, boolean byX, int prime) {
            p = prime;
            made.setTo(0);
            for (int i = 0; i <= MOST_DEGREE; i++) {
                for (int j = 0; j <= MOST_DEGREE - i; j++) {
                    int number = mod(f.at(i, j) * (byX ? i : j), p);
                    if (number != 0) {
                        made.put(byX ? i - 1 : i, byX ? j : j - 1, number);
                    }
                }
            }
        }
    }
}
