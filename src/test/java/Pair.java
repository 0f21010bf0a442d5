/** The program and the model under the same calls; each answer that is not alike is told. */
final class Pair {
    private static final int MOST_TOLD = 40;
    static int wrong = 0;
    static int asked = 0;

    final CurveMeets program = new CurveMeets();
    final Model model = new Model();
    private final StringBuilder story = new StringBuilder();

    private int same(String call, int got, int due) {
        asked++;
        if (got != due) {
            wrong++;
            if (wrong <= MOST_TOLD) {
                System.out.println(call + " answered " + got + ", the model " + due + "; ahead of it: " + story);
            }
        }
        return due;
    }

    private static int bit(boolean flag) {
        return flag ? 1 : 0;
    }

    private void tell(String act) {
        story.append(act).append("; ");
    }

    /** The text on the tape, and curves(). */
    int text(String text) {
        for (int at = 0; at < text.length(); at += 20) {
            int[] five = Answers.five(text, at, ' ');
            same("feed", program.feed(five[0], five[1], five[2], five[3], five[4]),
                model.feed(five[0], five[1], five[2], five[3], five[4]));
        }
        same("end", bit(program.end(text.length())), bit(model.end(text.length())));
        tell("text '" + text + "'");
        int count = same("curves", program.curves(), model.curves());
        same("fault(0)", program.fault(0), model.fault(0));
        same("fault(1)", program.fault(1), model.fault(1));
        for (int what = -1; what <= 4; what++) {
            same("has " + what, program.has(what), model.has(what));
        }
        return count;
    }

    void feed(int a, int b, int c, int d, int e) {
        same("feed", program.feed(a, b, c, d, e), model.feed(a, b, c, d, e));
    }

    void end(int n) {
        same("end " + n, bit(program.end(n)), bit(model.end(n)));
    }

    void move(int a, int b, int e, int c, int d, int f) {
        tell("move " + a + " " + b + " " + e + " " + c + " " + d + " " + f);
        same("move", bit(program.move(a, b, e, c, d, f)), bit(model.move(a, b, e, c, d, f)));
    }

    void moved(int point, int a, int b, int e, int c, int d, int f) {
        same("moved " + point + " " + a + " " + b + " " + e + " " + c + " " + d + " " + f,
            program.moved(point, a, b, e, c, d, f), model.moved(point, a, b, e, c, d, f));
    }

    int make(int a, int b, int how, int t) {
        tell("make " + a + " " + b + " " + how + " " + t);
        return same("make", program.make(a, b, how, t), model.make(a, b, how, t));
    }

    void drop(int curve) {
        tell("drop " + curve);
        same("drop", program.drop(curve), model.drop(curve));
    }

    void undo() {
        tell("undo");
        same("undo", bit(program.undo()), bit(model.undo()));
    }

    /** All CURVES with their terms and letters, and what was refused. */
    void state() {
        for (int what = -1; what <= 5; what++) {
            same("status " + what, program.status(what), model.status(what));
            same("has " + what, program.has(what), model.has(what));
        }
        for (int curve = -1; curve <= 6; curve++) {
            same("degree " + curve, program.degree(curve), model.degree(curve));
            for (int i = -1; i <= 6; i++) {
                same("letter " + curve + " " + i, program.letter(curve, i), model.letter(curve, i));
                for (int j = -1; j <= 5; j++) {
                    same("term " + curve + " " + i + " " + j,
                        program.term(curve, i, j), model.term(curve, i, j));
                }
            }
        }
    }

    void one(int c, int k) {
        same("point " + c + " " + k, program.point(c, k), model.point(c, k));
        same("singular " + c + " " + k, program.singular(c, k), model.singular(c, k));
        same("flex " + c + " " + k, program.flex(c, k), model.flex(c, k));
        same("genus " + c, program.genus(c), model.genus(c));
    }

    void at(int c, int q) {
        String name = c + " " + q;
        same("value " + name, program.value(c, q), model.value(c, q));
        same("order " + name, program.order(c, q), model.order(c, q));
        same("bend " + name, program.bend(c, q), model.bend(c, q));
        for (int i = -1; i <= 5; i++) {
            for (int j = -1; j <= 5; j++) {
                same("local " + name + " " + i + " " + j, program.local(c, q, i, j), model.local(c, q, i, j));
            }
        }
        for (int k = -2; k <= 4; k++) {
            for (int what = -1; what <= 2; what++) {
                same("tangent " + name + " " + k + " " + what,
                    program.tangent(c, q, k, what), model.tangent(c, q, k, what));
            }
        }
    }

    void two(int a, int b) {
        String name = a + " " + b;
        same("common " + name, program.common(a, b), model.common(a, b));
        for (int i = -1; i <= 5; i++) {
            for (int j = -1; j <= 5; j++) {
                same("commonTerm " + name + " " + i + " " + j,
                    program.commonTerm(a, b, i, j), model.commonTerm(a, b, i, j));
            }
        }
        for (int what = -1; what <= 2; what++) {
            same("most " + name + " " + what, program.most(a, b, what), model.most(a, b, what));
            for (int k = -2; k <= 3; k++) {
                same("meet " + name + " " + k + " " + what,
                    program.meet(a, b, k, what), model.meet(a, b, k, what));
            }
        }
    }

    void dimensions(int a, int b, int d) {
        String name = a + " " + b;
        same("parts " + name + " " + d, program.parts(a, b, d), model.parts(a, b, d));
        for (int what = -1; what <= 5; what++) {
            same("total " + name + " " + what, program.total(a, b, what), model.total(a, b, what));
        }
    }

    void twoAt(int a, int b, int q) {
        String name = a + " " + b + " " + q;
        int times = same("times " + name, program.times(a, b, q), model.times(a, b, q));
        int size = program.size(a, b, q);
        if (times >= 0) {
            same("size as times " + name, size, times);
        }
        for (int kind = -1; kind <= 4; kind++) {
            same("rules " + name + " " + kind, program.rules(a, b, q, kind), model.rules(a, b, q, kind));
        }
        for (int k = -2; k <= 2000; k++) {
            int due = same("rule " + name + " " + k, program.rule(a, b, q, k), model.rule(a, b, q, k));
            if (due == -1 && k >= 0) {
                break;
            }
        }
    }

    void size(int a, int b, int q) {
        same("size " + a + " " + b + " " + q, program.size(a, b, q), model.size(a, b, q));
    }

    void knot(int q) {
        for (int what = -1; what <= 2; what++) {
            same("knot " + q + " " + what, program.knot(q, what), model.knot(q, what));
        }
    }
}
