import java.util.function.Supplier;

/** Ordinary runs for promises 12 to 16: warmths as heat, what lies ahead and comes, what is new after going back. */
public final class WeeksTest {
    private static final Check CHECK = new Check("WeeksTest");

    public static void main(String[] args) {
        heatByWarmths();
        aheadIsWhatComes(Gardens::season);
        aheadIsWhatComes(Gardens::brim);
        backThenNew();
        CHECK.finish();
    }

    private static void heatByWarmths() {
        GardenBoxes x = new GardenBoxes();
        int[] due = {1, 1, 2, 2, 2, 0, 5, 5};
        CHECK.done(x, "P12", Check.warmFrom(x, 0, -1, 12, -1, 21, -1, -1, -1, 40), 8);
        x.crop(0, 400, 1, Check.rest(1, 0, 1));
        x.sow(0, 0);
        int heat = 0;
        for (int w = 0; w < due.length; w++) {
            CHECK.same("P27 warmth of week " + w, x.count(8 + w), due[w]);
            x.week();
            heat += due[w];
            CHECK.same("P18 heat after week " + w, x.bed(0, 2), heat);
        }
    }

    private static void aheadIsWhatComes(Supplier<GardenBoxes> recipe) {
        for (int w = 0; w < 26; w += 5) {
            for (int n = 1; n <= 10; n++) {
                GardenBoxes x = recipe.get();
                Check.weeks(x, w);
                int[] foretold = {x.ahead(n, 0), x.ahead(n, 1), x.ahead(n, 2), x.ahead(n, 3)};
                int[] before = sums(x);
                Check.weeks(x, n);
                int[] after = sums(x);
                CHECK.row("P14 " + n + " weeks, what", what -> foretold[what], after[0] - before[0],
                    after[1] - before[1], after[2] - before[2], after[3] - before[3]);
            }
        }
    }

    /** Holes and worth of the houses, spoilt and lost of the crops. */
    private static int[] sums(GardenBoxes x) {
        int[] sums = new int[4];
        for (int house = 0; house < x.count(1); house++) {
            sums[0] += x.houseTold(house, 4);
            sums[1] += x.houseTold(house, 3);
        }
        for (int crop = 0; crop < x.count(0); crop++) {
            sums[2] += x.told(crop, 10);
            sums[3] += x.told(crop, 8);
        }
        return sums;
    }

    private static void backThenNew() {
        GardenBoxes x = Gardens.season();
        x.image();
        x.crop(5, 1, 1, Check.rest(1, 1, 1));
        x.house(4, 0);
        x.away(3, 1 << 9);
        x.buy(6, 30);
        Check.weeks(x, 4);
        CHECK.same("P24 it got something", x.houseTold(3, 3) > 0 ? 1 : 0, 1);
        CHECK.done(x, "P16", x.back(), 4);
        CHECK.same("P2 crop 6 anew", x.crop(5, 2, 2, Check.rest(2, 2, 2)), 6);
        CHECK.row("P17 of it", what -> x.told(6, what), 5, 2, 2, 2, 2, 2, 0, 0, 0, 0, 0);
        CHECK.same("P6 house 3 anew", x.house(2, 64), 3);
        CHECK.row("P24 of it", what -> x.houseTold(3, what), 2, 64, 0, 0, 0, 0, 99, 99, 99, 99, 99, 99, 99, 99);
        CHECK.same("P22 it has no box", x.why(3, 0), -3);
    }
}
