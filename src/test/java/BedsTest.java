/** What a week does to beds (2 a, b, c), kind by kind. */
public final class BedsTest {
    private static final Check CHECK = new Check("BedsTest");

    public static void main(String[] args) {
        sownBed();
        plantedBed();
        cutBed();
        storedBed();
        gapAndFresh();
        CHECK.finish();
    }

    private static void sownBed() {
        GardenBoxes x = new GardenBoxes();
        x.crop(0, 4, 5, Check.rest(2, 3, 1));
        x.sow(6, 0);
        x.hands(3);
        Check.warmAll(x, 2);
        x.week();
        CHECK.same("2a not yet", x.bed(6, 3), 0);
        x.week();
        CHECK.same("2a offered", x.bed(6, 3), 1);
        CHECK.same("2c nothing stays ripe", x.bed(6, 4), 0);
        CHECK.same("2c lost", x.told(0, 8), 2);
        CHECK.same("2b picked", x.told(0, 7), 3);
        int[] lot = {0, 6, 0, 1, 3, 3};
        for (int what = 0; what < lot.length; what++) {
            CHECK.same("P20 picked lot " + what, x.lot(0, what), lot[what]);
        }
        x.hands(20);
        x.week();
        CHECK.same("2c it ended", x.bed(6, 0), -1);
        CHECK.same("2c not fresh", x.bed(6, 7), 0);
        CHECK.same("2c heat", x.bed(6, 2), 0);
        CHECK.same("2c offered", x.bed(6, 3), 0);
        CHECK.same("2b all picked", x.told(0, 7), 8);
        CHECK.same("2c no more lost", x.told(0, 8), 2);
        CHECK.same("P27 two lots", x.count(2), 2);
    }

    private static void plantedBed() {
        GardenBoxes x = new GardenBoxes();
        x.crop(1, 5, 4, Check.rest(1, 0, 1));
        x.sow(0, 0);
        x.hands(0);
        Check.warmAll(x, 3);
        x.week();
        CHECK.same("2c planted, lost", x.told(0, 8), 4);
        CHECK.same("2c planted, ended", x.bed(0, 0), -1);
        CHECK.same("2b no hands, no lot", x.count(2), 0);
    }

    private static void cutBed() {
        GardenBoxes x = new GardenBoxes();
        x.crop(2, 1, 5, Check.rest(2, 12, 1));
        x.sow(0, 0);
        x.hands(3);
        Check.warmAll(x, 1);
        x.week();
        CHECK.same("2c what is ripe waits", x.bed(0, 4), 2);
        CHECK.same("2c no rest yet", x.bed(0, 5), 0);
        x.hands(0);
        x.week();
        CHECK.same("2a no second offer while ripe", x.bed(0, 3), 1);
        CHECK.same("2a ripe as before", x.bed(0, 4), 2);
        x.hands(20);
        x.week();
        CHECK.same("2c picked wholly", x.bed(0, 4), 0);
        CHECK.same("2c rests", x.bed(0, 5), 2);
        CHECK.same("2c it stays", x.bed(0, 0), 0);
        x.week();
        CHECK.same("2a rests less", x.bed(0, 5), 1);
        x.week();
        CHECK.same("2a rests no more", x.bed(0, 5), 0);
        CHECK.same("2a no offer in that week", x.bed(0, 3), 1);
        x.hands(4);
        x.week();
        CHECK.same("2a the second offer", x.bed(0, 3), 2);
        CHECK.same("2c offered as often as it lasts, but ripe", x.bed(0, 4), 1);
        x.week();
        CHECK.same("2c then it ends", x.bed(0, 0), -1);
        CHECK.same("2c and rests no more", x.bed(0, 5), 0);
        CHECK.same("2b picked in all", x.told(0, 7), 10);
        CHECK.same("2c a cut one loses none", x.told(0, 8), 0);
    }

    private static void storedBed() {
        GardenBoxes x = new GardenBoxes();
        x.crop(3, 2, 3, Check.rest(4, 12, 1));
        x.sow(0, 0);
        x.hands(5);
        Check.warmAll(x, 1);
        x.week();
        CHECK.same("2a all at once", x.bed(0, 4), 7);
        x.week();
        CHECK.same("2a not again", x.bed(0, 4), 2);
        CHECK.same("2a offered each time", x.bed(0, 3), 2);
        x.hands(0);
        Check.weeks(x, 6);
        CHECK.same("2c it waits as long as it must", x.bed(0, 3), 8);
        x.hands(2);
        x.week();
        CHECK.same("2c then it ends", x.bed(0, 0), -1);
        CHECK.same("2b picked in all", x.told(0, 7), 12);
        CHECK.same("2c none is lost", x.told(0, 8), 0);
    }

    private static void gapAndFresh() {
        GardenBoxes x = new GardenBoxes();
        x.crop(4, 1, 20, Check.rest(2, 0, 1));
        x.crop(0, 1, 3, Check.rest(2, 0, 1));
        x.crop(3, 1, 3, Check.rest(2, 0, 1));
        Check.warmAll(x, 1);
        x.sow(0, 0);
        x.week();
        CHECK.same("2a a gap offers", x.bed(0, 3), 1);
        CHECK.same("2a a gap bears nothing", x.bed(0, 4), 0);
        CHECK.same("2c not fresh yet", x.bed(0, 7), 0);
        x.week();
        CHECK.same("2c the gap ended", x.bed(0, 0), -1);
        CHECK.same("2c fresh", x.bed(0, 7), 1);
        CHECK.same("2c it bore the gap", x.bed(0, 6), 0);
        CHECK.done(x, "P3 the same crop, being fresh", x.sow(0, 0), 1);
        Check.weeks(x, 2);
        CHECK.done(x, "P3 sown after the gap", x.sow(0, 1), 1);
        CHECK.same("P18 fresh while it bears", x.bed(0, 7), 1);
        Check.weeks(x, 2);
        CHECK.same("2a one more each time", x.told(1, 7), 8);
        CHECK.same("P17 the yield as told", x.told(1, 2), 3);
        CHECK.same("2c fresh no more", x.bed(0, 7), 0);
        x.sow(0, 0);
        Check.weeks(x, 2);
        x.sow(0, 2);
        x.week();
        CHECK.same("2a (yield and 1) times last", x.told(2, 7), 8);
        CHECK.same("2b no lot of a gap", x.told(0, 7), 0);
    }
}
