/** Boundary cases of acts, sheets and what the host does: part 5, promises 28 to 33. */
public final class HostEdgesTest {
    private static final Check CHECK = new Check("HostEdgesTest");
    private static final int LEAST = Integer.MIN_VALUE;
    private static final int MOST = Integer.MAX_VALUE;

    public static void main(String[] args) {
        wrapping();
        wrappingBelow();
        yieldAsTold();
        actNoSuch();
        actAnyNumber();
        traceKept();
        traceNoneSuch();
        traceOfTheLatest();
        sheetsAtFirst();
        sheetNumbers();
        sheetAllZero();
        sheetMissing();
        sheetNoSuch();
        cellNumbers();
        cellBytes();
        cellShorts();
        cellFloats();
        cellRefused();
        noneMade();
        noneRefused();
        forgeNoSuch();
        forgeKind();
        forgeKindRefused();
        forgeKindBelowZero();
        forgeRow();
        forgeShort();
        forgeShortRefused();
        forgeCopy();
        forgeCopyRefused();
        forgeCopyOfNone();
        forgePut();
        forgeDivide();
        forgeThrow();
        CHECK.finish();
    }

    /** Crop i is of KIND i, with YIELD 20 and KEEP 12 but for the last two, which are as small as can be. */
    private static GardenBoxes kinds() {
        GardenBoxes x = new GardenBoxes();
        for (int kind = 0; kind < 6; kind++) {
            x.crop(kind, 1, 20, Check.rest(1, 12, 1));
        }
        x.crop(0, 1, 1, Check.rest(1, 0, 1));
        x.crop(5, 1, 1, Check.rest(1, 0, 1));
        return x;
    }

    private static void wrapping() {
        CHECK.sentence("5", "with a number x (32 bits, wrapping)");
        GardenBoxes x = kinds();
        CHECK.done(x, "x + y", x.act(0, 0, MOST), LEAST + 19);
        CHECK.done(x, "x + y, just not", x.act(0, 0, MOST - 20), MOST);
        CHECK.done(x, "x + y + n", x.act(1, 0, MOST - 20), LEAST);
        CHECK.done(x, "(x + y) * 2", x.act(0, 1, (1 << 30) - 20), LEAST);
        CHECK.done(x, "(x + y) * 2, both", x.act(0, 1, MOST), 38);
        CHECK.done(x, "x + 1", x.act(1, 3, MOST), (LEAST + 21) * 2 ^ LEAST - 12);
        CHECK.done(x, "x + k", x.act(3, 1, MOST), (LEAST + 11 + 20 + 3) * 2);
        CHECK.done(x, "(x - k) * 3", x.act(3, 2, MOST), MOST - 38);
        CHECK.done(x, "2 * grow - grow", x.act(2, 1, MOST), LEAST + 19);
        CHECK.done(x, "keep - tell", x.act(4, 3, MOST), (MOST - 12) - (38 ^ MOST - 12));
    }

    private static void wrappingBelow() {
        CHECK.sentence("5", "(32 bits, wrapping)");
        GardenBoxes x = kinds();
        CHECK.done(x, "x - k", x.act(0, 2, LEAST), MOST - 11);
        CHECK.done(x, "x - k, just not", x.act(0, 2, LEAST + 12), LEAST);
        CHECK.done(x, "(x - 1 - k) * 3", x.act(5, 2, LEAST), (MOST - 12) * 3);
        CHECK.done(x, "(x - 1) * 3, without KEEP", x.act(7, 2, LEAST), MOST - 2);
        CHECK.done(x, "(x + y) * 2", x.act(0, 1, LEAST), 40);
        CHECK.done(x, "x + y + n ^ 5", x.act(5, 0, LEAST), LEAST + 25 ^ 5);
        CHECK.done(x, "0", x.act(6, 2, 0), 0);
    }

    private static void yieldAsTold() {
        CHECK.sentence("5", "y its YIELD (as told)");
        GardenBoxes x = kinds();
        Check.warmAll(x, 1);
        x.sow(0, 4);
        x.week();
        x.sow(0, 0);
        CHECK.same("the bed is fresh", x.bed(0, 7), 1);
        CHECK.done(x, "grow", x.act(0, 0, 0), 20);
        CHECK.done(x, "grow, with the least", x.act(6, 0, 0), 1);
    }

    private static void actNoSuch() {
        CHECK.sentence("P28", "STATUS 1.");
        GardenBoxes x = new GardenBoxes();
        CHECK.noneSuch(x, "without crops", crop -> x.act(crop, 0, 0), -1, 0, 7);
        x.crop(0, 1, 1, Check.rest(1, 0, 1));
        CHECK.noneSuch(x, "crop", crop -> x.act(crop, 0, 0), -1, 1, 7, 8);
        CHECK.noneSuch(x, "act", act -> x.act(0, act, 0), -1, 4, 5);
        CHECK.same("no trace", x.count(7), 0);
    }

    private static void actAnyNumber() {
        CHECK.sentence("P28", "An ACT of a CROP with x: what it answers (any number).");
        GardenBoxes x = kinds();
        x.forge(5, 0, 0);
        CHECK.done(x, "-1", x.act(0, 2, 11), -1);
        CHECK.done(x, "-2", x.act(0, 2, 10), -2);
        CHECK.done(x, "the least", x.act(6, 2, LEAST), LEAST);
        CHECK.done(x, "the greatest", x.act(6, 2, MOST), MOST);
    }

    private static void traceKept() {
        CHECK.sentence("5", "THE TRACE: the numbers of the bodies that ran in the latest act(), in the order in which "
            + "they began (what stands further left is worked out first); the first 50 are kept.");
        GardenBoxes x = kinds();
        x.act(5, 3, 0);
        CHECK.same("the longest", x.count(7), 10);
        CHECK.row("body", x::trace, 21, 13, 41, 11, 60, 20, 10, 61, 40, 12, -1);
        x.act(4, 3, 0);
        CHECK.row("keep ahead of tell", x::trace, 50, 12, 13, 11, 10, 12, -1);
        x.act(0, 2, 0);
        CHECK.row("the shortest", x::trace, 12, -1);
    }

    private static void traceNoneSuch() {
        CHECK.sentence("P29", "-1: none such.");
        GardenBoxes x = kinds();
        CHECK.outside("ahead of any act", -1, x::trace, -1, 0, 1, 49, 50);
        x.act(5, 3, 0);
        CHECK.outside("of ten", -1, x::trace, -1, 10, 11, 49, 50);
    }

    private static void traceOfTheLatest() {
        CHECK.sentence("P29", "THE TRACE's i-th body.");
        GardenBoxes x = kinds();
        x.act(2, 1, 0);
        CHECK.row("body", x::trace, 30, 11, 10, 10, -1);
        x.act(8, 1, 0);
        x.act(0, 4, 0);
        CHECK.row("refused acts leave it", x::trace, 30, 11, 10, 10, -1);
        x.act(1, 0, 0);
        CHECK.row("a shorter one", x::trace, 20, 10, -1, -1, -1);
    }

    private static void sheetsAtFirst() {
        CHECK.sentence("SHEETS", "SHEETS 0 .. 3 are rows of numbers, or missing (as all are at first)");
        GardenBoxes x = new GardenBoxes();
        CHECK.refusedFor(x, "cell of sheet", 10, sheet -> x.cell(sheet, 0, 0), 0, 1, 2, 3);
        CHECK.refusedFor(x, "none of sheet", 10, sheet -> x.none(sheet, 0), 0, 1, 2, 3);
        CHECK.refusedFor(x, "shorts of sheet", 10, sheet -> x.forge(2, 0, sheet), 0, 1, 2, 3);
        CHECK.refusedFor(x, "bytes of sheet", 10, sheet -> x.forge(3, 0, sheet), 0, 1, 2, 3);
        CHECK.noneSuch(x, "no sheet", sheet -> x.cell(sheet, 0, 0), -1, 4);
    }

    private static void sheetNumbers() {
        CHECK.sentence("P30", "A SHEET of a sort (0 .. 2) with n (0 .. 40) numbers");
        for (int sort = 0; sort < 3; sort++) {
            GardenBoxes x = new GardenBoxes();
            CHECK.done(x, "n 0 of sort " + sort, x.sheet(0, sort, 0), 1);
            CHECK.refusedFor(x, "no place of sort " + sort, 12, i -> x.cell(0, i, 1), 0, -1);
            CHECK.done(x, "n 1 of sort " + sort, x.sheet(1, sort, 1), 1);
            CHECK.done(x, "its place", x.cell(1, 0, 1), 1);
            CHECK.refused(x, "no second", x.cell(1, 1, 1), 12);
            CHECK.done(x, "n 40 of sort " + sort, x.sheet(3, sort, 40), 1);
            CHECK.done(x, "its last place", x.cell(3, 39, 1), 1);
            CHECK.refused(x, "no 41st", x.cell(3, 40, 1), 12);
        }
    }

    private static void sheetAllZero() {
        CHECK.sentence("P30", "all 0");
        GardenBoxes x = new GardenBoxes();
        x.sheet(0, 1, 40);
        x.cell(0, 0, 5);
        x.cell(0, 39, 6);
        CHECK.done(x, "made anew", x.sheet(0, 1, 40), 1);
        CHECK.done(x, "the first", x.forge(2, 0, 0), 0);
        CHECK.done(x, "the last", x.forge(2, 39, 0), 0);
        x.cell(0, 1, 7);
        x.sheet(0, 0, 2);
        CHECK.done(x, "of another sort", x.forge(3, 1, 0), 0);
        x.sheet(0, 2, 3);
        x.none(0, 1);
        x.cell(0, 2, 80);
        x.sheet(0, 2, 3);
        x.warm(0, 0);
        CHECK.row("floats made anew, week", w -> x.count(8 + w), 0, 0, 0);
        x.cell(0, 0, 80);
        x.sheet(0, 2, 1);
        x.sheet(0, 2, 3);
        CHECK.done(x, "made smaller, then greater", x.warm(0, 0), 3);
        CHECK.row("week", w -> x.count(8 + w), 0, 0, 0);
    }

    private static void sheetMissing() {
        CHECK.sentence("P30", "sort -1: it is missing from now on (n does not matter).");
        GardenBoxes x = new GardenBoxes();
        int[] ns = {0, -1, 41, 40, LEAST, MOST};
        for (int n : ns) {
            x.sheet(2, 1, 3);
            CHECK.done(x, "there", x.forge(2, 0, 2), 0);
            CHECK.done(x, "missing, n " + n, x.sheet(2, -1, n), 1);
            CHECK.refused(x, "it is", x.forge(2, 0, 2), 10);
        }
        CHECK.done(x, "missing twice", x.sheet(2, -1, 0), 1);
        CHECK.noneSuch(x, "no such sheet", sheet -> x.sheet(sheet, -1, 0), -1, 4);
    }

    private static void sheetNoSuch() {
        CHECK.sentence("P30", "Answers 1. STATUS 1.");
        GardenBoxes x = new GardenBoxes();
        x.sheet(0, 1, 3);
        x.cell(0, 2, 9);
        CHECK.noneSuch(x, "sheet", sheet -> x.sheet(sheet, 0, 1), -1, 4, 5);
        CHECK.noneSuch(x, "sort", sort -> x.sheet(0, sort, 1), -2, 3, 4);
        CHECK.noneSuch(x, "n", n -> x.sheet(0, 0, n), -1, 41, 42);
        CHECK.done(x, "the sheet stays", x.forge(2, 2, 0), 9);
    }

    private static void cellNumbers() {
        CHECK.sentence("P31", "Number i of a SHEET becomes v (-1000 .. 1000");
        GardenBoxes x = new GardenBoxes();
        for (int sort = 0; sort < 3; sort++) {
            int sheet = sort;
            x.sheet(sheet, sort, 2);
            CHECK.refusedFor(x, "v of sort " + sort, 1, v -> x.cell(sheet, 1, v), -1001, 1001, LEAST, MOST);
            CHECK.done(x, "-1000", x.cell(sheet, 1, -1000), 1);
            CHECK.done(x, "1000", x.cell(sheet, 1, 1000), 1);
        }
    }

    private static void cellBytes() {
        CHECK.sentence("P31", "of sort 0 cut to its lowest 8 bits, with sign");
        GardenBoxes x = new GardenBoxes();
        x.sheet(0, 0, 3);
        int[] told = {0, 127, 128, 129, 255, 256, 257, 383, 384, 1000, -1, -128, -129, -255, -256, -257, -1000};
        int[] due = {0, 127, -128, -127, -1, 0, 1, 127, -128, -24, -1, -128, 127, 1, 0, -1, 24};
        for (int i = 0; i < told.length; i++) {
            CHECK.done(x, "cell", x.cell(0, 1, told[i]), 1);
            CHECK.done(x, "of " + told[i], x.forge(3, 1, 0), due[i]);
        }
    }

    private static void cellShorts() {
        CHECK.sentence("P31", "Number i of a SHEET becomes v");
        GardenBoxes x = new GardenBoxes();
        x.sheet(0, 1, 3);
        int[] told = {0, 127, 128, 255, 256, 1000, -1, -128, -129, -1000};
        for (int v : told) {
            CHECK.done(x, "cell", x.cell(0, 2, v), 1);
            CHECK.done(x, "of " + v, x.forge(2, 2, 0), v);
            CHECK.done(x, "its neighbour", x.forge(2, 1, 0), 0);
        }
    }

    private static void cellFloats() {
        CHECK.sentence("P31", "of sort 2 v eighths");
        GardenBoxes x = new GardenBoxes();
        x.sheet(0, 2, 1);
        int[] told = {0, 7, 8, 15, 128, 256, 799, 800};
        for (int v : told) {
            CHECK.done(x, "cell", x.cell(0, 0, v), 1);
            CHECK.done(x, "warm", x.warm(0, 3), 1);
            CHECK.same("of " + v, x.count(8 + 3), v / 8);
        }
        CHECK.done(x, "cell", x.cell(0, 0, 801), 1);
        CHECK.refused(x, "an eighth above 100", x.warm(0, 3), 3);
        CHECK.done(x, "cell", x.cell(0, 0, -1), 1);
        CHECK.refused(x, "an eighth below 0", x.warm(0, 3), 3);
    }

    private static void cellRefused() {
        CHECK.sentence("P31", "Answers 1. STATUS 1, 10, 12.");
        GardenBoxes x = new GardenBoxes();
        x.sheet(0, 0, 3);
        x.sheet(1, 1, 3);
        x.sheet(2, 2, 3);
        CHECK.noneSuch(x, "sheet", sheet -> x.cell(sheet, 0, 0), -1, 4);
        CHECK.refusedFor(x, "place of a missing one", 10, i -> x.cell(3, i, 0), 0, -1, 40);
        CHECK.refusedFor(x, "v of a missing one", 1, v -> x.cell(3, 0, v), -1001, 1001);
        for (int sort = 0; sort < 3; sort++) {
            int sheet = sort;
            CHECK.refusedFor(x, "place", 12, i -> x.cell(sheet, i, 0), -1, 3, 40, LEAST, MOST);
            CHECK.refusedFor(x, "place, and v", 1, i -> x.cell(sheet, i, 1001), -1, 3);
            CHECK.done(x, "the first", x.cell(sheet, 0, 0), 1);
            CHECK.done(x, "the last", x.cell(sheet, 2, 0), 1);
        }
    }

    private static void noneMade() {
        CHECK.sentence("P32", "Number i of a SHEET of floats becomes no number. Answers 1.");
        GardenBoxes x = new GardenBoxes();
        x.sheet(0, 2, 40);
        CHECK.done(x, "the first", x.none(0, 0), 1);
        CHECK.done(x, "the last", x.none(0, 39), 1);
        x.sheet(1, 2, 3);
        x.cell(1, 0, 160);
        x.cell(1, 1, 80);
        CHECK.done(x, "the second", x.none(1, 1), 1);
        x.warm(1, 0);
        CHECK.row("week", w -> x.count(8 + w), 20, 10, 0);
        CHECK.done(x, "twice", x.none(1, 1), 1);
        CHECK.done(x, "a number again", x.cell(1, 1, 24), 1);
        x.warm(1, 0);
        CHECK.row("week then", w -> x.count(8 + w), 20, 3, 0);
    }

    private static void noneRefused() {
        CHECK.sentence("P32", "STATUS 1, 10, 11, 12 (the lowest that holds).");
        GardenBoxes x = new GardenBoxes();
        x.sheet(0, 0, 3);
        x.sheet(1, 1, 3);
        x.sheet(2, 2, 3);
        CHECK.noneSuch(x, "sheet", sheet -> x.none(sheet, -1), -1, 4);
        CHECK.refusedFor(x, "place of a missing one", 10, i -> x.none(3, i), 0, -1, 3, 40);
        CHECK.refusedFor(x, "place of bytes", 11, i -> x.none(0, i), 0, -1, 3, 40);
        CHECK.refusedFor(x, "place of shorts", 11, i -> x.none(1, i), 0, -1, 3, 40);
        CHECK.refusedFor(x, "place of floats", 12, i -> x.none(2, i), -1, 3, 40, LEAST, MOST);
    }

    private static void forgeNoSuch() {
        CHECK.sentence("P33", "(STATUS 1: another; n or k outside -100 .. 100)");
        GardenBoxes x = kinds();
        CHECK.noneSuch(x, "what", what -> x.forge(what, 0, 0), -1, 7, 8);
        GardenBoxes y = kinds();
        for (int what = 0; what < 7; what++) {
            int of = what;
            CHECK.refusedFor(y, "n of " + what, 1, n -> y.forge(of, n, 0), -101, 101, LEAST, MOST);
            CHECK.refusedFor(y, "k of " + what, 1, k -> y.forge(of, 1, k), -101, 101, LEAST, MOST);
        }
        GardenBoxes z = kinds();
        CHECK.done(z, "n 100", z.forge(1, 100, -100), 100);
        CHECK.refused(z, "n -100", z.forge(1, -100, 100), 13);
        CHECK.done(z, "k 100", z.forge(5, -100, 100), -10);
        CHECK.done(z, "k -100", z.forge(5, 100, -100), 10);
    }

    private static void forgeKind() {
        CHECK.sentence("P33", "0 CROP k modulo 8 is taken for one whose KIND is n modulo 6 (also for numbers below 0) "
            + "or one under that one (also by others between)");
        GardenBoxes x = kinds();
        String[] under = {"0", "01", "02", "013", "04", "0135"};
        for (int crop = 0; crop < 6; crop++) {
            for (int kind = 0; kind < 6; kind++) {
                int got = x.forge(0, kind, crop);
                if (under[crop].indexOf('0' + kind) >= 0) {
                    CHECK.done(x, "kind " + crop + " for " + kind, got, crop);
                } else {
                    CHECK.refused(x, "kind " + crop + " for " + kind, got, 11);
                }
            }
        }
    }

    private static void forgeKindRefused() {
        CHECK.sentence("P33", "10 (there is no such CROP), 11; answers its KIND.");
        GardenBoxes x = new GardenBoxes();
        CHECK.refusedFor(x, "without crops", 10, k -> x.forge(0, 0, k), 0, 7, 8, -1);
        x.crop(1, 1, 1, Check.rest(1, 0, 1));
        CHECK.refusedFor(x, "no such crop", 10, k -> x.forge(0, 0, k), 1, 7, 9, 15, -1, -7);
        CHECK.refusedFor(x, "not of kind", 11, n -> x.forge(0, n, 0), 2, 3, 4, 5);
        CHECK.each("of kind", 1, n -> x.forge(0, n, 0), 0, 1);
    }

    private static void forgeKindBelowZero() {
        CHECK.sentence("P33", "modulo 6 (also for numbers below 0)");
        GardenBoxes x = kinds();
        CHECK.each("kind 5, as", 5, n -> x.forge(0, n, 5), -1, -7, -97, 5, 11, 95);
        CHECK.each("kind 1, as", 1, n -> x.forge(0, n, 1), -5, -6, -11, -95, 6, 7, 96, 97, 0);
        CHECK.refusedFor(x, "kind 1, not as", 11, n -> x.forge(0, n, 1), -1, -2, -3, -4, -100, 100, 8, 98);
        CHECK.each("crop 4, as", 4, k -> x.forge(0, 4, k), 4, 12, 100, -4, -12, -100);
        CHECK.each("crop 7, as", 5, k -> x.forge(0, 5, k), 7, 15, -1, -9, -97, 95);
    }

    private static void forgeRow() {
        CHECK.sentence("P33", "1 a row of n numbers is made: 13; answers n.");
        GardenBoxes x = new GardenBoxes();
        for (int n = 0; n <= 100; n += 50) {
            CHECK.done(x, "n " + n, x.forge(1, n, 0), n);
        }
        CHECK.done(x, "n 1", x.forge(1, 1, 0), 1);
        CHECK.refusedFor(x, "n", 13, n -> x.forge(1, n, 0), -1, -2, -100);
    }

    private static void forgeShort() {
        CHECK.sentence("P33", "2 SHEET k modulo 4 is taken for one of sort 1: 11; its number n: 10, 12; answers it.");
        GardenBoxes x = new GardenBoxes();
        x.sheet(3, 1, 40);
        x.cell(3, 0, -1000);
        x.cell(3, 39, -1);
        CHECK.each("the first, by", -1000, k -> x.forge(2, 0, k), 3, 7, 99, -1, -5, -97);
        CHECK.done(x, "the last, -1", x.forge(2, 39, 3), -1);
        CHECK.refusedFor(x, "outside", 12, n -> x.forge(2, n, 3), -1, 40, 100, -100);
        x.sheet(2, 1, 0);
        CHECK.refusedFor(x, "outside of none", 12, n -> x.forge(2, n, 2), 0, -1, 1);
    }

    private static void forgeShortRefused() {
        CHECK.sentence("P33", "taken for one of sort 1: 11; its number n: 10, 12");
        GardenBoxes x = new GardenBoxes();
        x.sheet(0, 0, 3);
        x.sheet(2, 2, 3);
        CHECK.refusedFor(x, "bytes", 11, n -> x.forge(2, n, 0), 0, -1, 3);
        CHECK.refusedFor(x, "floats", 11, n -> x.forge(2, n, 2), 0, -1, 3);
        CHECK.refusedFor(x, "missing", 10, n -> x.forge(2, n, 1), 0, -1, 3);
    }

    private static void forgeCopy() {
        CHECK.sentence("P33", "3 n numbers of SHEET k modulo 4, taken for one of sort 0 (11), from its number 1 on, "
            + "are copied to a row of 6 from place n on");
        GardenBoxes x = new GardenBoxes();
        x.sheet(1, 0, 40);
        for (int i = 0; i < 5; i++) {
            x.cell(1, i, 100 + i);
        }
        CHECK.row("n", n -> x.forge(3, n, 1), 0, 101, 203, 306);
        CHECK.each("by", 306, k -> x.forge(3, 3, k), 1, 5, 97, -3, -99);
        x.cell(1, 1, -128);
        x.cell(1, 2, -127);
        CHECK.done(x, "below 0", x.forge(3, 2, 1), -255);
        x.cell(1, 1, -1);
        CHECK.done(x, "-1", x.forge(3, 1, 1), -1);
    }

    private static void forgeCopyRefused() {
        CHECK.sentence("P33", "10, 12 (n below 0, or they do not stand there in both");
        GardenBoxes x = new GardenBoxes();
        x.sheet(0, 0, 40);
        CHECK.refusedFor(x, "not in the row of 6", 12, n -> x.forge(3, n, 0), 4, 5, 6, 39, 40, 100);
        CHECK.refusedFor(x, "below 0", 12, n -> x.forge(3, n, 0), -1, -2, -100);
        for (int size = 1; size <= 3; size++) {
            x.sheet(0, 0, size);
            CHECK.done(x, "all behind the first of " + size, x.forge(3, size - 1, 0), 0);
            CHECK.refused(x, "one more than all of " + size, x.forge(3, size, 0), 12);
        }
        x.sheet(1, 1, 3);
        x.sheet(2, 2, 3);
        CHECK.refusedFor(x, "shorts", 11, n -> x.forge(3, n, 1), 0, 1, -1, 9);
        CHECK.refusedFor(x, "floats", 11, n -> x.forge(3, n, 2), 0, 1, -1, 9);
        CHECK.refusedFor(x, "missing", 10, n -> x.forge(3, n, 3), 0, 1, -1, 9);
    }

    private static void forgeCopyOfNone() {
        CHECK.sentence("P33", "also if it has no numbers at all");
        GardenBoxes x = new GardenBoxes();
        x.sheet(0, 0, 0);
        CHECK.refusedFor(x, "n", 12, n -> x.forge(3, n, 0), 0, 1, -1);
        x.sheet(0, 0, 1);
        CHECK.done(x, "none of one", x.forge(3, 0, 0), 0);
    }

    private static void forgePut() {
        CHECK.sentence("P33", "4 CROP k modulo 8 is put into a row that takes PLANTED ones and what is under them: 14; "
            + "answers its KIND (0: there is no such).");
        GardenBoxes x = new GardenBoxes();
        CHECK.each("no such", 0, k -> x.forge(4, 0, k), 0, 7, 8, 100, -1, -100);
        CHECK.same("is done", x.status(), 0);
        GardenBoxes y = kinds();
        CHECK.each("PLANTED, by", 1, k -> y.forge(4, -9, k), 1, 9, 97, -7);
        CHECK.each("STORED, by", 3, k -> y.forge(4, 9, k), 3, 11, -5);
        CHECK.each("BOUGHT, by", 5, k -> y.forge(4, 0, k), 5, 7, 13, -3, -1);
        CHECK.refusedFor(y, "does not fit", 14, k -> y.forge(4, 1, k), 0, 2, 4, 6, 8, -2, -4, 100, -100);
    }

    private static void forgeDivide() {
        CHECK.sentence("P33", "5 1000 is divided by n: 15.");
        GardenBoxes x = new GardenBoxes();
        CHECK.refusedFor(x, "by 0, k", 15, k -> x.forge(5, 0, k), 0, 1, -100, 100);
        int[] by = {1, -1, 3, -3, 7, 99, 100, -100};
        int[] due = {1000, -1000, 333, -333, 142, 10, 10, -10};
        for (int i = 0; i < by.length; i++) {
            CHECK.done(x, "by " + by[i], x.forge(5, by[i], 0), due[i]);
        }
    }

    private static void forgeThrow() {
        CHECK.sentence("P33", "6 a failure is thrown: n modulo 2 is 0: none is there: 10; 1: one that is caught at "
            + "once; answers 1.");
        GardenBoxes x = new GardenBoxes();
        CHECK.refusedFor(x, "none is there", 10, n -> x.forge(6, n, 1), 0, 2, -2, 100, -100);
        CHECK.each("one that is caught", 1, n -> x.forge(6, n, 0), 1, -1, 3, -3, 99, -99);
        CHECK.same("is done", x.status(), 0);
    }
}
