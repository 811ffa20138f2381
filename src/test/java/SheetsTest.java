/** Promises 30 to 34: sheets, what the host does, and the status. */
public final class SheetsTest {
    private static final Check CHECK = new Check("SheetsTest");

    public static void main(String[] args) {
        sheets();
        cells();
        noNumbers();
        forgeWrong();
        forgeKinds();
        forgeRows();
        forgeShorts();
        forgeCopies();
        forgePlanted();
        forgeRest();
        status();
        CHECK.finish();
    }

    private static void sheets() {
        GardenBoxes x = new GardenBoxes();
        CHECK.refused(x, "P30 sheet -1", x.sheet(-1, 0, 1), 1);
        CHECK.refused(x, "P30 sheet 4", x.sheet(4, 0, 1), 1);
        CHECK.refused(x, "P30 sort -2", x.sheet(0, -2, 1), 1);
        CHECK.refused(x, "P30 sort 3", x.sheet(0, 3, 1), 1);
        CHECK.refused(x, "P30 n -1", x.sheet(0, 0, -1), 1);
        CHECK.refused(x, "P30 n 41", x.sheet(0, 0, 41), 1);
        CHECK.refused(x, "P30 it is missing still", x.cell(0, 0, 0), 10);
        CHECK.done(x, "P30 n 0", x.sheet(3, 2, 0), 1);
        CHECK.done(x, "P30 n 40", x.sheet(0, 1, 40), 1);
        CHECK.done(x, "P31 the last", x.cell(0, 39, 5), 1);
        CHECK.done(x, "P33 the last", x.forge(2, 39, 0), 5);
        CHECK.done(x, "P30 anew", x.sheet(0, 1, 40), 1);
        CHECK.done(x, "P33 all 0", x.forge(2, 39, 0), 0);
        CHECK.done(x, "P30 missing, n does not matter", x.sheet(0, -1, -5), 1);
        CHECK.refused(x, "P33 it is missing", x.forge(2, 39, 0), 10);
        CHECK.refused(x, "P30 missing, no such sheet", x.sheet(4, -1, 0), 1);
    }

    private static void cells() {
        GardenBoxes x = new GardenBoxes();
        x.sheet(0, 0, 3);
        x.sheet(1, 1, 3);
        CHECK.refused(x, "P31 sheet -1", x.cell(-1, 0, 0), 1);
        CHECK.refused(x, "P31 sheet 4", x.cell(4, 0, 0), 1);
        CHECK.refused(x, "P31 -1001", x.cell(0, 0, -1001), 1);
        CHECK.refused(x, "P31 1001", x.cell(0, 0, 1001), 1);
        CHECK.refused(x, "P31 missing, 1001", x.cell(2, 0, 1001), 1);
        CHECK.refused(x, "P31 missing", x.cell(2, 0, 0), 10);
        CHECK.refused(x, "P31 place -1", x.cell(0, -1, 0), 12);
        CHECK.refused(x, "P31 place 3", x.cell(0, 3, 0), 12);
        CHECK.refused(x, "P31 place 3, 1001", x.cell(0, 3, 1001), 1);
        int[] told = {-1000, 1000, 127, 128, 255, 256, -128, -129, 5};
        for (int v : told) {
            CHECK.done(x, "P31 a byte", x.cell(0, 1, v), 1);
            CHECK.done(x, "P31 a byte " + v, x.forge(3, 1, 0), (byte) v);
            CHECK.done(x, "P31 a short", x.cell(1, 2, v), 1);
            CHECK.done(x, "P31 a short " + v, x.forge(2, 2, 1), v);
        }
        x.sheet(2, 2, 1);
        CHECK.done(x, "P31 a float", x.cell(2, 0, 100), 1);
        x.warm(2, 5);
        CHECK.same("P31 eighths", x.count(8 + 5), 12);
    }

    private static void noNumbers() {
        GardenBoxes x = new GardenBoxes();
        x.sheet(0, 0, 2);
        x.sheet(1, 1, 2);
        x.sheet(2, 2, 2);
        CHECK.refused(x, "P32 sheet -1", x.none(-1, 0), 1);
        CHECK.refused(x, "P32 sheet 4", x.none(4, 0), 1);
        CHECK.refused(x, "P32 missing", x.none(3, 9), 10);
        CHECK.refused(x, "P32 bytes", x.none(0, 0), 11);
        CHECK.refused(x, "P32 shorts, outside too", x.none(1, 2), 11);
        CHECK.refused(x, "P32 outside", x.none(2, 2), 12);
        CHECK.refused(x, "P32 outside below", x.none(2, -1), 12);
        CHECK.done(x, "P31 a number", x.cell(2, 0, 80), 1);
        CHECK.done(x, "P32 no number", x.none(2, 1), 1);
        CHECK.done(x, "P12 both", x.warm(2, 0), 2);
        CHECK.same("P32 the mean then", x.count(8 + 1), 5);
        CHECK.done(x, "P31 a number again", x.cell(2, 1, 16), 1);
        CHECK.done(x, "P12 both again", x.warm(2, 0), 2);
        CHECK.same("P31 the number then", x.count(8 + 1), 2);
    }

    private static GardenBoxes kinds() {
        GardenBoxes x = new GardenBoxes();
        for (int kind = 0; kind < 6; kind++) {
            x.crop(kind, 10, 3, Check.rest(1, 2, 1));
        }
        return x;
    }

    private static void forgeWrong() {
        GardenBoxes x = kinds();
        CHECK.refused(x, "P33 what -1", x.forge(-1, 0, 0), 1);
        CHECK.refused(x, "P33 what 7", x.forge(7, 0, 0), 1);
        for (int what = 0; what < 7; what++) {
            CHECK.refused(x, "P33 n 101", x.forge(what, 101, 0), 1);
            CHECK.refused(x, "P33 n -101", x.forge(what, -101, 0), 1);
            CHECK.refused(x, "P33 k 101", x.forge(what, 0, 101), 1);
            CHECK.refused(x, "P33 k -101", x.forge(what, 0, -101), 1);
        }
    }

    private static void forgeKinds() {
        GardenBoxes x = kinds();
        boolean[][] under = {
            {true, false, false, false, false, false},
            {true, true, false, false, false, false},
            {true, false, true, false, false, false},
            {true, true, false, true, false, false},
            {true, false, false, false, true, false},
            {true, true, false, true, false, true},
        };
        for (int crop = 0; crop < 6; crop++) {
            for (int kind = 0; kind < 6; kind++) {
                int[] ns = {kind, kind + 6, kind - 6, kind - 96};
                for (int n : ns) {
                    String name = "P33 0: crop " + crop + " for kind " + n;
                    int got = x.forge(0, n, crop - 8);
                    if (under[crop][kind]) {
                        CHECK.done(x, name, got, crop);
                    } else {
                        CHECK.refused(x, name, got, 11);
                    }
                }
            }
        }
        CHECK.refused(x, "P33 0: no such crop", x.forge(0, 0, 6), 10);
        CHECK.refused(x, "P33 0: no such crop below 0", x.forge(0, 0, -1), 10);
        CHECK.done(x, "P33 0: 100 is crop 4", x.forge(0, 100, 100), 4);
        CHECK.done(x, "P33 0: -100 is crop 4", x.forge(0, -98, -100), 4);
    }

    private static void forgeRows() {
        GardenBoxes x = new GardenBoxes();
        CHECK.done(x, "P33 1: 0", x.forge(1, 0, 0), 0);
        CHECK.done(x, "P33 1: 100", x.forge(1, 100, 5), 100);
        CHECK.refused(x, "P33 1: -1", x.forge(1, -1, 0), 13);
        CHECK.refused(x, "P33 1: -100", x.forge(1, -100, 0), 13);
    }

    private static void forgeShorts() {
        GardenBoxes x = new GardenBoxes();
        x.sheet(0, 0, 3);
        x.sheet(1, 1, 3);
        x.sheet(2, 2, 3);
        x.cell(1, 0, -900);
        CHECK.done(x, "P33 2: a number", x.forge(2, 0, 1), -900);
        CHECK.done(x, "P33 2: by k below 0", x.forge(2, 0, -3), -900);
        CHECK.done(x, "P33 2: by k above", x.forge(2, 0, 97), -900);
        CHECK.refused(x, "P33 2: outside", x.forge(2, 3, 1), 12);
        CHECK.refused(x, "P33 2: outside below", x.forge(2, -1, 1), 12);
        CHECK.refused(x, "P33 2: bytes", x.forge(2, 0, 0), 11);
        CHECK.refused(x, "P33 2: floats, outside too", x.forge(2, 9, 2), 11);
        CHECK.refused(x, "P33 2: missing", x.forge(2, 9, 3), 10);
    }

    private static void forgeCopies() {
        GardenBoxes x = new GardenBoxes();
        x.sheet(0, 0, 4);
        x.sheet(1, 1, 4);
        for (int i = 0; i < 4; i++) {
            x.cell(0, i, 100 - 50 * i);
        }
        CHECK.done(x, "P33 3: none", x.forge(3, 0, 0), 0);
        CHECK.done(x, "P33 3: 1", x.forge(3, 1, 0), 50);
        CHECK.done(x, "P33 3: 2", x.forge(3, 2, 4), 50);
        CHECK.done(x, "P33 3: 3", x.forge(3, 3, -4), 0);
        CHECK.refused(x, "P33 3: 4, not in both", x.forge(3, 4, 0), 12);
        CHECK.refused(x, "P33 3: below 0", x.forge(3, -1, 0), 12);
        CHECK.refused(x, "P33 3: shorts", x.forge(3, -1, 1), 11);
        CHECK.refused(x, "P33 3: missing", x.forge(3, 0, 2), 10);
        x.sheet(0, 0, 40);
        CHECK.done(x, "P33 3: 3 of 40", x.forge(3, 3, 0), 0);
        CHECK.refused(x, "P33 3: 4 of 40, beyond the row of 6", x.forge(3, 4, 0), 12);
        x.sheet(0, 0, 3);
        CHECK.refused(x, "P33 3: 3 of 3, beyond the sheet", x.forge(3, 3, 0), 12);
        x.sheet(0, 0, 1);
        CHECK.done(x, "P33 3: none of 1", x.forge(3, 0, 0), 0);
        x.sheet(0, 0, 0);
        CHECK.refused(x, "P33 3: no numbers at all", x.forge(3, 0, 0), 12);
    }

    private static void forgePlanted() {
        GardenBoxes x = kinds();
        int[] fits = {-1, 1, -1, 3, -1, 5};
        for (int crop = 0; crop < 6; crop++) {
            int got = x.forge(4, 0, crop);
            if (fits[crop] < 0) {
                CHECK.refused(x, "P33 4: crop " + crop, got, 14);
            } else {
                CHECK.done(x, "P33 4: crop " + crop, got, fits[crop]);
            }
        }
        CHECK.done(x, "P33 4: no such", x.forge(4, 9, 7), 0);
        CHECK.done(x, "P33 4: no such below 0", x.forge(4, 9, -2), 0);
    }

    private static void forgeRest() {
        GardenBoxes x = new GardenBoxes();
        CHECK.refused(x, "P33 5: by 0", x.forge(5, 0, 3), 15);
        CHECK.done(x, "P33 5: by 3", x.forge(5, 3, 0), 333);
        CHECK.done(x, "P33 5: by -3", x.forge(5, -3, 0), -333);
        CHECK.done(x, "P33 5: by 100", x.forge(5, 100, 0), 10);
        CHECK.refused(x, "P33 6: 0", x.forge(6, 0, 0), 10);
        CHECK.refused(x, "P33 6: -2", x.forge(6, -2, 0), 10);
        CHECK.done(x, "P33 6: 1", x.forge(6, 1, 0), 1);
        CHECK.done(x, "P33 6: -1", x.forge(6, -1, 0), 1);
    }

    /** Questions leave the status; every other call sets it. */
    private static void status() {
        GardenBoxes x = kinds();
        x.house(1, 0);
        x.forge(5, 0, 0);
        x.fault(0);
        x.ahead(1, 0);
        x.ahead(0, 0);
        x.told(9, 0);
        x.bed(9, 0);
        x.ripens(9);
        x.lot(9, 9);
        x.box(9, 9);
        x.why(9, 9);
        x.lead(9, 9);
        x.houseTold(9, 9);
        x.fair();
        x.holds(9, 9);
        x.count(99);
        x.trace(9);
        CHECK.same("P34 after questions", x.status(), 15);
        CHECK.done(x, "P34 hands", x.hands(3), 20);
        x.forge(5, 0, 0);
        CHECK.done(x, "P34 image", x.image(), 1);
        x.forge(5, 0, 0);
        CHECK.done(x, "P34 back", x.back(), 0);
        x.forge(5, 0, 0);
        CHECK.done(x, "P34 lines", x.lines(), 0);
        x.forge(5, 0, 0);
        CHECK.done(x, "P34 week", x.week(), 1);
    }
}
