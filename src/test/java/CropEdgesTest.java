/** Boundary cases of crops: part 1 and promises 1, 2 and 17, a sentence at a time. */
public final class CropEdgesTest {
    private static final Check CHECK = new Check("CropEdgesTest");
    private static final int FINE = Check.rest(1, 0, 1);

    public static void main(String[] args) {
        newObject();
        eightCrops();
        kinds();
        need();
        bears();
        last();
        keep();
        worth();
        rest();
        lowestStatus();
        roomAfterGoingBack();
        told();
        toldNoSuch();
        CHECK.finish();
    }

    private static void newObject() {
        CHECK.sentence("P1", "No CROPS, bare BEDS (not FRESH, none borne), no HOUSES, LINES, LOTS.");
        GardenBoxes x = new GardenBoxes();
        CHECK.row("count", x::count, 0, 0, 0, 0, 0, 20, 0, 0);
        for (int bed = 0; bed < 8; bed++) {
            int of = bed;
            CHECK.row("bed " + bed, what -> x.bed(of, what), -1, -1, 0, 0, 0, 0, -1, 0);
            CHECK.same("ripens " + bed, x.ripens(bed), -1);
        }
        CHECK.outside("told", -1, crop -> x.told(crop, 0), -1, 0, 1, 7);
        CHECK.outside("houseTold", -1, house -> x.houseTold(house, 0), -1, 0, 1, 9);
        CHECK.outside("holds", -1, line -> x.holds(line, 0), -1, 0, 1, 19);
        CHECK.outside("lot", -1, lot -> x.lot(lot, 0), -1, 0, 1, 239);
        CHECK.row("box, lead, why, trace, fair, status", i -> new int[] {
            x.box(0, 0), x.lead(0, 0), x.why(0, 0), x.trace(0), x.fair(), x.status()}[i], -1, -1, -3, -1, 0, 0);
        CHECK.row("ahead", what -> x.ahead(10, what), 0, 0, 0, 0);
        CHECK.done(x, "a week of nothing", x.week(), 0);
    }

    private static void eightCrops() {
        CHECK.sentence("1", "CROPS (8 at most, numbered from 0)");
        GardenBoxes x = new GardenBoxes();
        for (int i = 0; i < 8; i++) {
            CHECK.done(x, "crop " + i, x.crop(i % 6, 1 + i, 1, FINE), i);
            CHECK.same("crops", x.count(0), i + 1);
        }
        CHECK.refused(x, "the ninth", x.crop(0, 9, 1, FINE), 2);
        CHECK.same("crops stay", x.count(0), 8);
        CHECK.same("no ninth", x.told(8, 0), -1);
        CHECK.row("need of crop", crop -> x.told(crop, 1), 1, 2, 3, 4, 5, 6, 7, 8);
    }

    private static void kinds() {
        CHECK.sentence("1", "KINDS: 0 SOWN. 1 PLANTED, under SOWN. 2 CUT, under SOWN. 3 STORED, under PLANTED. "
            + "4 GAP, under SOWN. 5 BOUGHT, under STORED.");
        GardenBoxes x = new GardenBoxes();
        CHECK.noneSuch(x, "kind", kind -> x.crop(kind, 1, 1, FINE), -1, 6, 7);
        for (int kind = 0; kind < 6; kind++) {
            CHECK.done(x, "kind " + kind, x.crop(kind, 1, 1, FINE), kind);
            CHECK.same("kind", x.told(kind, 0), kind);
        }
    }

    private static void need() {
        CHECK.sentence("1", "a NEED 1 .. 400");
        GardenBoxes x = new GardenBoxes();
        CHECK.noneSuch(x, "need", need -> x.crop(0, need, 1, FINE), 0, -1, 401);
        CHECK.done(x, "need 1", x.crop(0, 1, 1, FINE), 0);
        CHECK.done(x, "need 400", x.crop(0, 400, 1, FINE), 1);
        CHECK.row("need", crop -> x.told(crop, 1), 1, 400, -1);
    }

    private static void bears() {
        CHECK.sentence("1", "a YIELD 1 .. 20");
        GardenBoxes x = new GardenBoxes();
        CHECK.noneSuch(x, "yield", yield -> x.crop(0, 1, yield, FINE), 0, -1, 21);
        CHECK.done(x, "yield 1", x.crop(0, 1, 1, FINE), 0);
        CHECK.done(x, "yield 20", x.crop(0, 1, 20, FINE), 1);
        CHECK.row("yield", crop -> x.told(crop, 2), 1, 20, -1);
    }

    private static void last() {
        CHECK.sentence("1", "LAST 1 .. 10");
        GardenBoxes x = new GardenBoxes();
        CHECK.refusedFor(x, "last", 1, last -> x.crop(0, 1, 1, Check.rest(last, 3, 2)), 0, 11, 12, 15);
        CHECK.done(x, "last 1", x.crop(0, 1, 1, Check.rest(1, 3, 2)), 0);
        CHECK.done(x, "last 10", x.crop(0, 1, 1, Check.rest(10, 3, 2)), 1);
        CHECK.row("last", crop -> x.told(crop, 3), 1, 10, -1);
    }

    private static void keep() {
        CHECK.sentence("1", "KEEP 0 .. 12");
        GardenBoxes x = new GardenBoxes();
        CHECK.refusedFor(x, "keep", 1, keep -> x.crop(0, 1, 1, Check.rest(3, keep, 2)), 13, 14, 15);
        CHECK.done(x, "keep 0", x.crop(0, 1, 1, Check.rest(3, 0, 2)), 0);
        CHECK.done(x, "keep 12", x.crop(0, 1, 1, Check.rest(3, 12, 2)), 1);
        CHECK.row("keep", crop -> x.told(crop, 4), 0, 12, -1);
    }

    private static void worth() {
        CHECK.sentence("1", "a WORTH 1 .. 9");
        GardenBoxes x = new GardenBoxes();
        CHECK.refusedFor(x, "worth", 1, worth -> x.crop(0, 1, 1, Check.rest(3, 4, worth)),
            0, -1, 10, 16, 17, 257, 8388607, -8388608, -8388607);
        CHECK.done(x, "worth 1", x.crop(0, 1, 1, Check.rest(3, 4, 1)), 0);
        CHECK.done(x, "worth 9", x.crop(0, 1, 1, Check.rest(3, 4, 9)), 1);
        CHECK.row("worth", crop -> x.told(crop, 5), 1, 9, -1);
    }

    private static void rest() {
        CHECK.sentence("P2", "rest is LAST, and 16 times KEEP, and 256 times WORTH.");
        GardenBoxes x = new GardenBoxes();
        CHECK.noneSuch(x, "rest", rest -> x.crop(0, 1, 1, rest), 0, -1, 1, 256, 256 + 16, 257 - 512);
        CHECK.done(x, "the least", x.crop(0, 1, 1, 257), 0);
        CHECK.done(x, "the greatest", x.crop(0, 1, 1, 10 + 192 + 2304), 1);
        CHECK.refused(x, "one more", x.crop(0, 1, 1, 10 + 192 + 2304 + 1), 1);
        CHECK.row("the least", what -> x.told(0, what), 0, 1, 1, 1, 0, 1);
        CHECK.row("the greatest", what -> x.told(1, what), 0, 1, 1, 10, 12, 9);
    }

    private static void lowestStatus() {
        CHECK.sentence("P2", "A CROP: its number. STATUS 1, 2.");
        GardenBoxes x = new GardenBoxes();
        for (int i = 0; i < 8; i++) {
            x.crop(0, 1, 1, FINE);
        }
        CHECK.refusedFor(x, "full", 2, need -> x.crop(0, need, 1, FINE), 1, 400);
        CHECK.refusedFor(x, "full, and need", 1, need -> x.crop(0, need, 1, FINE), 0, 401);
        CHECK.refusedFor(x, "full, and kind", 1, kind -> x.crop(kind, 1, 1, FINE), -1, 6);
    }

    private static void roomAfterGoingBack() {
        CHECK.sentence("P16", "All is as the IMAGE has it, which stays: THE WEEK.");
        GardenBoxes x = new GardenBoxes();
        x.crop(1, 2, 3, FINE);
        x.image();
        for (int i = 1; i < 8; i++) {
            x.crop(0, 1, 1, FINE);
        }
        CHECK.refused(x, "the ninth", x.crop(0, 1, 1, FINE), 2);
        x.back();
        CHECK.same("no second", x.told(1, 0), -1);
        CHECK.done(x, "the second anew", x.crop(2, 7, 8, FINE), 1);
        CHECK.row("it", what -> x.told(1, what), 2, 7, 8, 1, 0, 1, 0, 0, 0, 0, 0);
    }

    private static void told() {
        CHECK.sentence("P17", "Of a CROP: 0 KIND, 1 NEED, 2 YIELD, 3 LAST, 4 KEEP, 5 WORTH, 6 stock, "
            + "7 picked (or bought) in all, 8 LOST, 9 in BOXES, 10 SPOILT.");
        GardenBoxes x = new GardenBoxes();
        x.crop(0, 400, 20, Check.rest(10, 12, 9));
        CHECK.row("at first", what -> x.told(0, what), 0, 400, 20, 10, 12, 9, 0, 0, 0, 0, 0);
        x.crop(0, 1, 9, Check.rest(3, 1, 2));
        Check.warmAll(x, 1);
        x.house(1, 0);
        x.sow(0, 1);
        x.hands(5);
        x.week();
        CHECK.row("a week on", what -> x.told(1, what), 0, 1, 9, 3, 1, 2, 4, 5, 4, 1, 0);
        x.week();
        CHECK.row("two weeks on", what -> x.told(1, what), 0, 1, 9, 3, 1, 2, 5, 10, 8, 2, 3);
        CHECK.row("the other", what -> x.told(0, what), 0, 400, 20, 10, 12, 9, 0, 0, 0, 0, 0);
    }

    private static void toldNoSuch() {
        CHECK.sentence("P17", "-1: no such.");
        GardenBoxes x = new GardenBoxes();
        x.crop(0, 400, 20, Check.rest(10, 12, 9));
        x.crop(5, 400, 20, Check.rest(10, 12, 9));
        CHECK.outside("what", -1, what -> x.told(1, what), -1, -2, 11, 12);
        CHECK.outside("crop", -1, crop -> x.told(crop, 1), -1, -2, 2, 7, 8);
        CHECK.outside("both", -1, what -> x.told(2, what), -1, 0, 10, 11);
    }
}
