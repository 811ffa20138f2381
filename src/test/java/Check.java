/** What the tests of the project share: counting wrong answers, and calls that are made often. */
final class Check {
    private final String name;
    private int asked = 0;
    private int wrong = 0;

    Check(String name) {
        this.name = name;
    }

    void same(String what, long got, long want) {
        asked++;
        if (got != want) {
            wrong++;
            System.out.println(name + ": " + what + " answered " + got + ", due is " + want);
        }
    }

    /** A call that is no question and was carried out. */
    void done(GardenBoxes x, String what, int got, int want) {
        same(what, got, want);
        same(what + ": status", x.status(), 0);
    }

    /** A call that is no question and was refused. */
    void refused(GardenBoxes x, String what, int got, int status) {
        same(what, got, -1);
        same(what + ": status", x.status(), status);
    }

    void finish() {
        System.out.println(name + ": " + asked + " answers, " + wrong + " wrong");
        if (asked == 0 || wrong != 0) {
            System.exit(1);
        }
    }

    static int rest(int last, int keep, int worth) {
        return last + 16 * keep + 256 * worth;
    }

    static void feed(GardenBoxes x, String text) {
        for (int i = 0; i < text.length(); i += 8) {
            int n = Math.min(8, text.length() - i);
            long bytes = 0;
            for (int j = 0; j < n; j++) {
                bytes |= (long) (text.charAt(i + j) & 255) << 8 * j;
            }
            x.feed(n, bytes);
        }
    }

    static int tell(GardenBoxes x, String text) {
        feed(x, text);
        return x.lines();
    }

    /** Every week from 0 to 29 gets a warmth of so many whole ones. */
    static void warmAll(GardenBoxes x, int whole) {
        x.sheet(3, 2, 30);
        for (int i = 0; i < 30; i++) {
            x.cell(3, i, whole * 8);
        }
        x.warm(3, 0);
        x.sheet(3, -1, 0);
    }

    static void weeks(GardenBoxes x, int n) {
        for (int i = 0; i < n; i++) {
            x.week();
        }
    }
}
