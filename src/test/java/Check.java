import java.util.function.IntUnaryOperator;

/** What the tests of the project share: counting wrong answers, and calls that are made often. */
final class Check {
    /** Numbers that lie outside of whatever the document tells. */
    private static final int[] FAR = {Integer.MIN_VALUE, Integer.MIN_VALUE + 1, -4096, 4096, Integer.MAX_VALUE};

    private final String name;
    private String sentence = "";
    private int sentences = 0;
    private int askedBefore = 0;
    private int asked = 0;
    private int wrong = 0;

    Check(String name) {
        this.name = name;
    }

    /** The answers from here on are held against this sentence of a part (1 to 5) or promise (P1 to P34). */
    void sentence(String where, String words) {
        endSentence();
        sentence = where + ": " + words;
        sentences++;
        askedBefore = asked;
    }

    private void endSentence() {
        if (!sentence.isEmpty() && asked == askedBefore) {
            wrong++;
            System.out.println(name + ": no answer is held against \"" + sentence + "\"");
        }
    }

    void same(String what, long got, long want) {
        asked++;
        if (got != want) {
            wrong++;
            String of = sentence.isEmpty() ? "" : " (\"" + sentence + "\")";
            System.out.println(name + ": " + what + " answered " + got + ", due is " + want + of);
        }
    }

    /** A call that is no question and was carried out. */
    void done(GardenBoxes x, String what, int got, int want) {
        same(what, got, want);
        same(what + ": status", x.status(), 0);
    }

    /** A call that is no question and was refused. */
    void refused(GardenBoxes x, String what, int got, int status) {
        same(what, got, -1);
        same(what + ": status", x.status(), status);
    }

    /** A row of answers to one question, for its number 0, 1 and so on. */
    void row(String what, IntUnaryOperator question, int... want) {
        for (int i = 0; i < want.length; i++) {
            same(what + " " + i, question.applyAsInt(i), want[i]);
        }
    }

    /** A question that answers the same for each of these numbers. */
    void each(String what, int want, IntUnaryOperator question, int... numbers) {
        for (int number : numbers) {
            same(what + " " + number, question.applyAsInt(number), want);
        }
    }

    /** A question that answers so for these numbers and for those far off. */
    void outside(String what, int want, IntUnaryOperator question, int... numbers) {
        each(what, want, question, numbers);
        each(what, want, question, FAR);
    }

    /** A call that is refused for each of these numbers; the status before it is always another. */
    void refusedFor(GardenBoxes x, String what, int status, IntUnaryOperator call, int... numbers) {
        for (int number : numbers) {
            if (status == 1) {
                x.forge(5, 0, 0);
            } else {
                x.hands(-1);
            }
            refused(x, what + " " + number, call.applyAsInt(number), status);
        }
    }

    /** A call that is refused with status 1 for these numbers and for those far off. */
    void noneSuch(GardenBoxes x, String what, IntUnaryOperator call, int... numbers) {
        refusedFor(x, what, 1, call, numbers);
        refusedFor(x, what, 1, call, FAR);
    }

    void finish() {
        endSentence();
        String of = sentences == 0 ? "" : " for " + sentences + " sentences";
        System.out.println(name + ": " + asked + " answers" + of + ", " + wrong + " wrong");
        if (asked == 0 || wrong != 0) {
            System.exit(1);
        }
    }

    static int rest(int last, int keep, int worth) {
        return last + 16 * keep + 256 * worth;
    }

    static void feed(GardenBoxes x, String text) {
        for (int i = 0; i < text.length(); i += 8) {
            int n = Math.min(8, text.length() - i);
            long bytes = 0;
            for (int j = 0; j < n; j++) {
                bytes |= (long) (text.charAt(i + j) & 255) << 8 * j;
            }
            x.feed(n, bytes);
        }
    }

    static int tell(GardenBoxes x, String text) {
        feed(x, text);
        return x.lines();
    }

    /** Every week from 0 to 29 gets a warmth of so many whole ones. */
    static void warmAll(GardenBoxes x, int whole) {
        x.sheet(3, 2, 30);
        for (int i = 0; i < 30; i++) {
            x.cell(3, i, whole * 8);
        }
        x.warm(3, 0);
        x.sheet(3, -1, 0);
    }

    /** Warmths from week w on, in eighths, by sheet 0; those below 0 are no numbers. */
    static int warmFrom(GardenBoxes x, int w, int... eighths) {
        x.sheet(0, 2, eighths.length);
        for (int i = 0; i < eighths.length; i++) {
            if (eighths[i] < 0) {
                x.none(0, i);
            } else {
                x.cell(0, i, eighths[i]);
            }
        }
        return x.warm(0, w);
    }

    static void weeks(GardenBoxes x, int n) {
        for (int i = 0; i < n; i++) {
            x.week();
        }
    }
}
