/** Promises 12 to 16 and 27: warmths, weeks, what lies ahead, images, counts. */
public final class WeeksTest {
    private static final Check CHECK = new Check("WeeksTest");

    public static void main(String[] args) {
        warm();
        warmRefused();
        meanOfNeighbours();
        week();
        ahead();
        aheadToTheEnd();
        image();
        whatAnImageLeavesOut();
        backTenTimes();
        count();
        CHECK.finish();
    }

    private static void warm() {
        GardenBoxes x = new GardenBoxes();
        x.sheet(1, 2, 4);
        x.cell(1, 0, 800);
        x.cell(1, 1, 7);
        x.cell(1, 2, 8);
        x.cell(1, 3, 15);
        CHECK.done(x, "P12 from week 26 on", x.warm(1, 26), 4);
        int[] due = {0, 100, 0, 1, 1};
        for (int i = 0; i < due.length; i++) {
            CHECK.same("P27 warmth of week " + (25 + i), x.count(8 + 25 + i), due[i]);
        }
        x.cell(1, 0, 16);
        CHECK.same("P12 the sheet may change", x.count(8 + 26), 100);
        CHECK.done(x, "P12 again", x.warm(1, 24), 4);
        CHECK.same("P12 week 24", x.count(8 + 24), 2);
        CHECK.same("P12 week 28 stays", x.count(8 + 28), 1);
        x.sheet(0, 2, 0);
        CHECK.done(x, "P12 none", x.warm(0, 29), 0);
    }

    private static void warmRefused() {
        GardenBoxes x = new GardenBoxes();
        x.sheet(0, 0, 31);
        x.sheet(1, 1, 3);
        x.sheet(2, 2, 3);
        x.cell(2, 1, -1);
        CHECK.refused(x, "P12 sheet -1", x.warm(-1, 0), 1);
        CHECK.refused(x, "P12 sheet 4", x.warm(4, 0), 1);
        CHECK.refused(x, "P12 week -1", x.warm(2, -1), 1);
        CHECK.refused(x, "P12 week 30", x.warm(2, 30), 1);
        CHECK.refused(x, "P12 missing", x.warm(3, 0), 10);
        CHECK.refused(x, "P12 missing, week 30", x.warm(3, 30), 1);
        CHECK.refused(x, "P12 bytes", x.warm(0, 0), 11);
        CHECK.refused(x, "P12 shorts", x.warm(1, 0), 11);
        CHECK.refused(x, "P12 beyond week 29", x.warm(2, 28), 12);
        CHECK.refused(x, "P12 below 0", x.warm(2, 27), 3);
        x.cell(2, 1, 801);
        CHECK.refused(x, "P12 above 100", x.warm(2, 0), 3);
        x.cell(2, 1, 800);
        x.cell(2, 0, -1);
        CHECK.refused(x, "P12 the first", x.warm(2, 0), 3);
        x.cell(2, 0, 0);
        x.cell(2, 2, 1000);
        CHECK.refused(x, "P12 the last", x.warm(2, 0), 3);
        x.cell(2, 0, 80);
        CHECK.refused(x, "P12 nothing is told then", x.warm(2, 0), 3);
        CHECK.same("P12 week 0", x.count(8), 0);
        x.none(2, 2);
        CHECK.done(x, "P12 no number", x.warm(2, 0), 3);
        CHECK.same("P12 week 1", x.count(9), 100);
    }

    private static void meanOfNeighbours() {
        GardenBoxes x = new GardenBoxes();
        x.sheet(0, 2, 30);
        x.none(0, 0);
        x.cell(0, 1, 12);
        x.none(0, 2);
        x.cell(0, 3, 21);
        x.none(0, 4);
        x.none(0, 5);
        x.none(0, 6);
        x.cell(0, 7, 40);
        x.cell(0, 26, 23);
        x.none(0, 27);
        x.none(0, 28);
        x.cell(0, 29, 31);
        CHECK.done(x, "P12 with no numbers", x.warm(0, 0), 30);
        int[] weeks = {0, 1, 2, 3, 4, 5, 6, 7, 26, 27, 28, 29};
        int[] due = {1, 1, 2, 2, 2, 0, 5, 5, 2, 2, 3, 3};
        for (int i = 0; i < weeks.length; i++) {
            CHECK.same("P27 warmth of week " + weeks[i], x.count(8 + weeks[i]), due[i]);
        }
        x.crop(0, 400, 1, Check.rest(1, 0, 1));
        x.sow(0, 0);
        Check.weeks(x, 8);
        x.sheet(1, 2, 2);
        x.cell(1, 0, 47);
        x.none(1, 1);
        x.warm(1, 28);
        CHECK.same("P27 week 29 beside week 28 alone", x.count(8 + 29), 5);
        CHECK.same("2a heat by these", x.bed(0, 2), 1 + 1 + 2 + 2 + 2 + 0 + 5 + 5);
    }

    private static void week() {
        GardenBoxes x = new GardenBoxes();
        x.house(6, 0);
        x.house(2, 0);
        for (int w = 0; w < 30; w++) {
            CHECK.same("P27 the week", x.count(4), w);
            CHECK.done(x, "P13 holes", x.week(), 8);
        }
        CHECK.same("P27 the week", x.count(4), 30);
        CHECK.refused(x, "P13 it is 30", x.week(), 3);
        CHECK.same("P13 no more boxes", x.houseTold(0, 5), 30);
    }

    private static GardenBoxes season() {
        GardenBoxes x = new GardenBoxes();
        x.crop(0, 3, 6, Check.rest(3, 1, 2));
        x.crop(2, 2, 4, Check.rest(4, 2, 3));
        x.crop(5, 1, 1, Check.rest(1, 3, 5));
        x.crop(3, 8, 2, Check.rest(5, 4, 1));
        x.crop(4, 2, 1, Check.rest(1, 0, 1));
        Check.warmAll(x, 1);
        x.house(3, 0);
        x.house(2, 1);
        x.away(1, 4);
        x.buy(2, 9);
        for (int i = 0; i < 5; i++) {
            x.sow(i, i);
        }
        x.hands(5);
        Check.tell(x, "give c1 when stock c1<3;bar c0 when had c0<2;");
        return x;
    }

    private static int[] sumsOf(GardenBoxes x) {
        int[] sums = new int[4];
        for (int house = 0; house < 2; house++) {
            sums[0] += x.houseTold(house, 4);
            sums[1] += x.houseTold(house, 3);
        }
        for (int crop = 0; crop < 5; crop++) {
            sums[2] += x.told(crop, 10);
            sums[3] += x.told(crop, 8);
        }
        return sums;
    }

    private static void ahead() {
        for (int from = 0; from < 12; from += 3) {
            for (int n = 1; n <= 10; n++) {
                GardenBoxes x = season();
                Check.weeks(x, from);
                String before = portrait(x);
                int[] foretold = new int[4];
                for (int what = 0; what < 4; what++) {
                    foretold[what] = x.ahead(n, what);
                }
                CHECK.same("P14 nothing changed", portrait(x).equals(before) ? 1 : 0, 1);
                int[] then = sumsOf(x);
                Check.weeks(x, n);
                int[] now = sumsOf(x);
                for (int what = 0; what < 4; what++) {
                    CHECK.same("P14 " + n + " weeks from " + from + " what " + what, foretold[what],
                        now[what] - then[what]);
                }
            }
        }
        GardenBoxes x = new GardenBoxes();
        x.crop(0, 1, 3, Check.rest(2, 0, 4));
        x.house(2, 0);
        x.hands(2);
        x.sow(0, 0);
        Check.warmAll(x, 1);
        int[][] due = {{1, 4, 1, 1}, {2, 8, 2, 2}, {4, 8, 2, 2}};
        for (int n = 1; n <= 3; n++) {
            for (int what = 0; what < 4; what++) {
                CHECK.same("P14 by hand, " + n + " weeks, what " + what, x.ahead(n, what), due[n - 1][what]);
            }
        }
    }

    private static void aheadToTheEnd() {
        GardenBoxes x = season();
        CHECK.same("P14 n 0", x.ahead(0, 0), -1);
        CHECK.same("P14 n 11", x.ahead(11, 0), -1);
        CHECK.same("P14 what -1", x.ahead(1, -1), -1);
        CHECK.same("P14 what 4", x.ahead(1, 4), -1);
        x.hands(-1);
        x.ahead(3, 0);
        CHECK.same("P34 a question leaves the status", x.status(), 1);
        Check.weeks(x, 27);
        CHECK.same("P14 as far as week 29", x.ahead(10, 0), x.ahead(3, 0));
        CHECK.same("P14 five holes a week", x.ahead(3, 0), 15);
        Check.weeks(x, 3);
        CHECK.same("P14 no week any more", x.ahead(10, 0), 0);
    }

    /** All that questions answer of the state that an image keeps. */
    private static String portrait(GardenBoxes x) {
        StringBuilder all = new StringBuilder();
        for (int i = 0; i < 40; i++) {
            all.append(i == 6 || i == 7 ? 0 : x.count(i)).append(' ');
        }
        for (int i = 0; i < 10; i++) {
            for (int what = 0; what < 15; what++) {
                all.append(x.told(i, what)).append(' ').append(x.bed(i, what)).append(' ');
                all.append(x.houseTold(i, what)).append(' ').append(x.holds(what, i)).append(' ');
                all.append(x.box(i, what)).append(' ').append(x.why(i, what)).append(' ').append(x.lead(i, what));
            }
            all.append(x.ripens(i)).append(' ');
        }
        for (int i = 0; i < 240; i++) {
            for (int what = 0; what < 6; what++) {
                all.append(x.lot(i, what)).append(' ');
            }
        }
        for (int what = 0; what < 4; what++) {
            all.append(x.ahead(10, what)).append(' ');
        }
        return all.append(x.fair()).toString();
    }

    private static void image() {
        GardenBoxes x = season();
        CHECK.refused(x, "P16 there is none", x.back(), 3);
        Check.weeks(x, 3);
        String then = portrait(x);
        CHECK.done(x, "P15", x.image(), 1);
        Check.weeks(x, 4);
        x.crop(5, 1, 1, Check.rest(1, 1, 1));
        x.house(4, 0);
        x.buy(5, 30);
        x.hands(100);
        x.away(0, 1023);
        x.dislike(0, 3, true);
        x.sow(7, 0);
        x.sow(4, 0);
        Check.tell(x, "give c5;give c4;bar c0;");
        Check.warmAll(x, 50);
        Check.weeks(x, 4);
        CHECK.same("P18 fresh no more", x.bed(4, 7), 0);
        CHECK.done(x, "P16", x.back(), 3);
        CHECK.same("P16 all is as it was", portrait(x).equals(then) ? 1 : 0, 1);
        x.crop(5, 1, 1, Check.rest(1, 1, 1));
        x.house(4, 0);
        CHECK.same("P16 a new crop is new", x.told(5, 7), 0);
        CHECK.same("P16 a new house is new", x.houseTold(2, 3) + x.houseTold(2, 5), 0);
        CHECK.same("P16 it had none", x.houseTold(2, 6), 99);
        CHECK.same("P16 it has no box", x.why(2, 0), -3);
        Check.weeks(x, 2);
        CHECK.done(x, "P16 the image stays", x.back(), 3);
        CHECK.same("P16 all is as it was again", portrait(x).equals(then) ? 1 : 0, 1);
        x.week();
        x.image();
        Check.weeks(x, 2);
        CHECK.done(x, "P15 in place of the one before", x.back(), 4);
    }

    private static void whatAnImageLeavesOut() {
        GardenBoxes x = season();
        x.act(0, 0, 1);
        x.sheet(0, 1, 2);
        x.image();
        Check.tell(x, "give");
        x.act(0, 3, 1);
        x.sheet(0, 1, 2);
        x.cell(0, 1, 9);
        x.feed(3, 'a' | 'b' << 8 | 'c' << 16);
        CHECK.done(x, "P16", x.back(), 0);
        CHECK.same("P15 not the sheets", x.forge(2, 1, 0), 9);
        CHECK.same("P15 not the tape", x.count(6), 3);
        CHECK.same("P15 not the fault", x.fault(1), 4);
        CHECK.same("P15 not the trace", x.count(7), 4);
    }

    private static void backTenTimes() {
        GardenBoxes x = new GardenBoxes();
        CHECK.refused(x, "P16 there is none", x.back(), 3);
        x.image();
        for (int i = 0; i < 10; i++) {
            x.week();
            if (i == 5) {
                x.image();
            }
            CHECK.done(x, "P16 time " + i, x.back(), i < 5 ? 0 : 1);
        }
        x.week();
        CHECK.refused(x, "P16 the eleventh", x.back(), 2);
        CHECK.same("P16 nothing changed", x.count(4), 2);
        x.image();
        CHECK.refused(x, "P16 also with a new image", x.back(), 2);
    }

    private static void count() {
        GardenBoxes x = season();
        x.feed(2, 0);
        x.act(2, 3, 0);
        int[] due = {5, 2, 1, 2, 0, 5, 2, 10, 1};
        for (int what = 0; what < due.length; what++) {
            CHECK.same("P27 count " + what, x.count(what), due[what]);
        }
        CHECK.same("P27 week 29", x.count(37), 1);
        CHECK.same("P27 what 38", x.count(38), -1);
        CHECK.same("P27 what -1", x.count(-1), -1);
    }
}
