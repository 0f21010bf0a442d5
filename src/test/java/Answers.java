import java.io.IOException;
import java.nio.file.Files;
import java.nio.file.Path;
import java.util.ArrayList;
import java.util.List;
import java.util.function.IntUnaryOperator;

/** What the tests by hand share: answers beside those that are due, and texts put on the tape. */
class Answers {
    static final int NONE = -1;
    static final int LEAST = Integer.MIN_VALUE;
    static final int GREATEST = Integer.MAX_VALUE;
    static final int[] PRIMES = {2, 3, 5, 7, 11, 13, 17, 19, 23, 29, 31};
    private static final int MOST_TOLD = 6;
    private static final Path DOCUMENT = Path.of("../shared/DOC.md");
    private static final List<String> sentences = new ArrayList<>();
    private static int asked = 0;
    private static int wrong = 0;
    private static int told = 0;
    private static String inHand = "";

    static void due(String call, long got, long want) {
        alike(call, Long.toString(got), Long.toString(want));
    }

    static void due(String call, boolean got, boolean want) {
        alike(call, Boolean.toString(got), Boolean.toString(want));
    }

    static void alike(String call, String got, String want) {
        asked++;
        if (!got.equals(want)) {
            wrong++;
            told++;
            if (told <= MOST_TOLD) {
                System.out.println(inHand + call.replace("\n", "\\n") + " answered " + got + ", due is " + want);
            }
        }
    }

    /** A test of one sentence of the document: what fails in it is told with the sentence. */
    static void sentence(String where, String words, Runnable test) {
        sentences.add(words);
        inHand = "[" + where + ": " + words + "] ";
        told = 0;
        test.run();
        inHand = "";
        told = 0;
    }

    /** The numbers of CURVES that can't be when there are so many. */
    static void noSuchCurve(String call, int count, IntUnaryOperator ask, int due) {
        for (int curve : new int[] {-1, count, count + 1, 6, 1000, GREATEST, LEAST, -count - 1}) {
            due(call + " of CURVE " + curve, ask.applyAsInt(curve), due);
        }
    }

    /** The numbers of POINTS that can't be modulo p. */
    static void noSuchPoint(String call, int p, IntUnaryOperator ask) {
        int points = p * p + p + 1;
        for (int point : new int[] {-1, points, points + 1, 2 * points, GREATEST, LEAST, -points}) {
            due(call + " at POINT " + point, ask.applyAsInt(point), NONE);
        }
    }

    /** Numbers that are none of 0 .. below - 1. */
    static void noneForOthers(String call, int below, IntUnaryOperator ask) {
        for (int what : new int[] {-1, -2, below, below + 1, GREATEST, LEAST}) {
            due(call + " of what " + what, ask.applyAsInt(what), NONE);
        }
    }

    /** A list by k: as many as it has (k NONE), each, and none ahead of and behind these. */
    static void list(String call, IntUnaryOperator ask, int... want) {
        due(call + ", how many", ask.applyAsInt(NONE), want.length);
        items(call, ask, want);
    }

    static void items(String call, IntUnaryOperator ask, int... want) {
        for (int k = 0; k < want.length; k++) {
            due(call + ", k " + k, ask.applyAsInt(k), want[k]);
        }
        for (int k : new int[] {want.length, want.length + 1, -2, 1000, GREATEST, LEAST}) {
            due(call + ", k " + k, ask.applyAsInt(k), NONE);
        }
    }

    /** Five numbers for feed(): twenty bytes of a text from a place on, behind its end a filler. */
    static int[] five(String text, int at, char filler) {
        int[] five = new int[5];
        for (int k = 0; k < 20; k++) {
            int sign = at + k < text.length() ? text.charAt(at + k) : filler;
            five[k / 4] = five[k / 4] << 8 | sign;
        }
        return five;
    }

    static void tape(CurveMeets x, String text) {
        int length = 0;
        for (int at = 0; at < text.length(); at += 20) {
            int[] five = five(text, at, '?');
            length = x.feed(five[0], five[1], five[2], five[3], five[4]);
        }
        due("feed of '" + text + "'", length, (text.length() + 19) / 20 * 20);
        due("end of '" + text + "'", x.end(text.length()), true);
    }

    static int read(CurveMeets x, String text) {
        tape(x, text);
        return x.curves();
    }

    /** A new object with a text that has no FAULT. */
    static CurveMeets with(String text) {
        CurveMeets x = new CurveMeets();
        int count = text.split("curve\\s").length - 1;
        due("curves of '" + text + "'", read(x, text), count);
        due("fault(0) of '" + text + "'", x.fault(0), 0);
        due("fault(1) of '" + text + "'", x.fault(1), NONE);
        return x;
    }

    static void faulty(String text, int kind, int place) {
        CurveMeets x = new CurveMeets();
        due("curves of '" + text + "'", read(x, text), NONE);
        due("fault(0) of '" + text + "'", x.fault(0), kind);
        due("fault(1) of '" + text + "'", x.fault(1), place);
        due("status(1) of '" + text + "'", x.status(1), 1);
    }

    static String repeat(String text, int often) {
        return text.repeat(often);
    }

    /** The TERMS of a CURVE that are not 0, as a text. */
    static String terms(CurveMeets x, int curve) {
        StringBuilder text = new StringBuilder();
        for (int d = 4; d >= 0; d--) {
            for (int i = d; i >= 0; i--) {
                int number = x.term(curve, i, d - i);
                if (number != 0) {
                    text.append(number).append("x").append(i).append("y").append(d - i).append(" ");
                }
            }
        }
        return text.toString().trim();
    }

    /** The letters of a CURVE's NAME, as a text; a sign ! where there is none such. */
    static String name(CurveMeets x, int curve) {
        StringBuilder text = new StringBuilder();
        for (int i = 0; i < 6; i++) {
            int letter = x.letter(curve, i);
            text.append(letter < 0 ? "!" : letter == 0 ? "" : String.valueOf((char) ('a' + letter - 1)));
        }
        return text.toString();
    }

    /** All CURVES with NAMES and TERMS, and P, as a text. */
    static String all(CurveMeets x) {
        StringBuilder text = new StringBuilder("field " + x.has(0));
        for (int k = 0; k < x.has(1); k++) {
            text.append("; ").append(name(x, k)).append("=").append(terms(x, k));
        }
        return text.toString();
    }

    private static String flat(String text) {
        return text.replaceAll("\\s+", " ");
    }

    /** A sentence that the document has no more is no fault of the program: it is only told. */
    private static void lookUpSentences() {
        if (!Files.exists(DOCUMENT)) {
            return;
        }
        try {
            String document = flat(Files.readString(DOCUMENT));
            for (String words : sentences) {
                if (!document.contains(flat(words))) {
                    System.out.println("note: DOC.md does not say '" + words + "'");
                }
            }
        } catch (IOException e) {
            System.out.println("note: DOC.md can't be read");
        }
    }

    /** The last words of a test: it ends with exit code 1 if an answer was not as due. */
    static void close() {
        lookUpSentences();
        String of = sentences.isEmpty() ? "" : " of " + sentences.size() + " sentences";
        System.out.println(asked + " answers" + of + ", " + wrong + " not as due");
        if (wrong != 0) {
            System.exit(1);
        }
    }
}
