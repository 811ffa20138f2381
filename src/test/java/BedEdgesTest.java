import java.util.function.Supplier;

/** Boundary cases of beds, hands and lots: parts 1 and 2 (a, b, c), promises 3 to 5 and 18 to 20. */
public final class BedEdgesTest {
    private static final Check CHECK = new Check("BedEdgesTest");
    private static final int BUYS = 239;

    public static void main(String[] args) {
        eightBeds();
        oneSowing();
        bedKnows();
        sowNoSuch();
        sowNotSo();
        sowBoreItLast();
        sowInTheLastWeek();
        heatAtFirst();
        atLeastNeed();
        greatestNeed();
        sownOffers();
        cutOffers();
        cutRests();
        storedOffers();
        gapOffers();
        freshBed();
        freshStored();
        handsAtFirst();
        handsTold();
        pickingOrder();
        handsLeft();
        noEmptyLot();
        lotsFull();
        lotsFullForOthers();
        lost();
        cutPickedWholly();
        sowingEnds();
        cutEnds();
        storedEnds();
        freshIfGap();
        buyNumbers();
        buyNoSuch();
        buyFull();
        buyInTheLastWeek();
        bedTold();
        bedNoSuch();
        ripensFirst();
        ripensNone();
        lotTold();
        lotNoSuch();
        CHECK.finish();
    }

    /** A crop 0 of a kind with NEED 1 on bed 0, and a warmth of 1 in each week. */
    private static GardenBoxes sown(int kind, int bears, int last) {
        GardenBoxes x = new GardenBoxes();
        x.crop(kind, 1, bears, Check.rest(last, 12, 1));
        Check.warmAll(x, 1);
        x.sow(0, 0);
        return x;
    }

    private static void eightBeds() {
        CHECK.sentence("1", "BEDS 0 .. 7");
        GardenBoxes x = sown(0, 1, 1);
        CHECK.noneSuch(x, "bed", bed -> x.sow(bed, 0), -1, 8, 9);
        for (int bed = 1; bed < 8; bed++) {
            CHECK.done(x, "bed " + bed, x.sow(bed, 0), 1);
        }
        CHECK.row("crop of bed", bed -> x.bed(bed, 0), 0, 0, 0, 0, 0, 0, 0, 0, -1);
        x.week();
        CHECK.same("all are picked", x.count(2), 8);
        CHECK.row("bed of lot", lot -> x.lot(lot, 1), 0, 1, 2, 3, 4, 5, 6, 7, -1);
        CHECK.row("all ended, bed", bed -> x.bed(bed, 0), -1, -1, -1, -1, -1, -1, -1, -1, -1);
        CHECK.row("borne last, bed", bed -> x.bed(bed, 6), 0, 0, 0, 0, 0, 0, 0, 0, -1);
    }

    private static void oneSowing() {
        CHECK.sentence("1", "bear one SOWING at most");
        GardenBoxes x = sown(0, 1, 1);
        x.crop(0, 9, 9, Check.rest(9, 9, 9));
        CHECK.refusedFor(x, "a second", 3, crop -> x.sow(0, crop), 0, 1);
        CHECK.row("the first stays", what -> x.bed(0, what), 0, 0, 0, 0, 0, 0, -1, 0);
    }

    private static void bedKnows() {
        CHECK.sentence("1", "A BED knows the CROP whose SOWING ended on it last (NONE at first), and whether it is "
            + "FRESH.");
        GardenBoxes x = new GardenBoxes();
        for (int i = 0; i < 8; i++) {
            x.crop(i == 7 ? 4 : 0, 1, 1, Check.rest(1, 0, 1));
        }
        Check.warmAll(x, 1);
        int[] crops = {0, 7, 3, 0};
        int last = -1;
        for (int crop : crops) {
            x.sow(4, crop);
            CHECK.same("the last while it bears " + crop, x.bed(4, 6), last);
            CHECK.same("fresh while it bears " + crop, x.bed(4, 7), last == 7 ? 1 : 0);
            x.week();
            CHECK.same("the last after " + crop, x.bed(4, 6), crop);
            CHECK.same("fresh after " + crop, x.bed(4, 7), crop == 7 ? 1 : 0);
            last = crop;
        }
        CHECK.row("bed", bed -> x.bed(bed, 6), -1, -1, -1, -1, 0, -1, -1, -1, -1);
    }

    private static void sowNoSuch() {
        CHECK.sentence("P3", "STATUS 1 (also a BOUGHT one)");
        GardenBoxes x = sown(0, 1, 1);
        x.crop(5, 1, 1, Check.rest(1, 0, 1));
        CHECK.noneSuch(x, "crop", crop -> x.sow(1, crop), -1, 2, 3, 8);
        CHECK.refusedFor(x, "a bought one on bed", 1, bed -> x.sow(bed, 1), 1, 7);
        CHECK.refusedFor(x, "a bought one on a bed that bears", 1, bed -> x.sow(bed, 1), 0);
        CHECK.row("nothing came", bed -> x.bed(bed, 0), 0, -1, -1, -1, -1, -1, -1, -1);
    }

    private static void sowNotSo() {
        CHECK.sentence("P3", "3 (the BED bears one; it bore this CROP last, not being FRESH; THE WEEK is 30)");
        GardenBoxes x = sown(0, 1, 1);
        CHECK.refused(x, "it bears one", x.sow(0, 0), 3);
        x.week();
        CHECK.refused(x, "it bore this one", x.sow(0, 0), 3);
        CHECK.done(x, "on another bed", x.sow(1, 0), 1);
        CHECK.refused(x, "bears one, and no such crop", x.sow(1, 1), 1);
        CHECK.refused(x, "bore it, and no such crop", x.sow(0, -1), 1);
        CHECK.same("bare still", x.bed(0, 0), -1);
    }

    private static void sowBoreItLast() {
        CHECK.sentence("P3", "it bore this CROP last, not being FRESH");
        GardenBoxes x = sown(0, 1, 1);
        x.crop(4, 1, 1, Check.rest(1, 0, 1));
        x.crop(0, 1, 1, Check.rest(1, 0, 1));
        x.week();
        CHECK.refused(x, "crop 0 again", x.sow(0, 0), 3);
        CHECK.done(x, "another", x.sow(0, 2), 1);
        x.week();
        CHECK.refused(x, "that one again", x.sow(0, 2), 3);
        CHECK.done(x, "crop 0 is no more the last", x.sow(0, 0), 1);
        x.week();
        CHECK.done(x, "a gap", x.sow(0, 1), 1);
        x.week();
        CHECK.row("fresh, the gap was last", what -> x.bed(0, what), -1, -1, 0, 0, 0, 0, 1, 1);
        CHECK.done(x, "the gap again, being fresh", x.sow(0, 1), 1);
    }

    private static void sowInTheLastWeek() {
        CHECK.sentence("P3", "THE WEEK is 30");
        GardenBoxes x = sown(0, 1, 1);
        Check.weeks(x, 29);
        CHECK.done(x, "in week 29", x.sow(1, 0), 1);
        CHECK.same("it came", x.bed(1, 1), 29);
        x.week();
        CHECK.refusedFor(x, "in week 30, bed", 3, bed -> x.sow(bed, 0), 0, 2, 7);
        CHECK.refusedFor(x, "in week 30, and bed", 1, bed -> x.sow(bed, 0), -1, 8);
    }

    private static void heatAtFirst() {
        CHECK.sentence("1", "its HEAT (0 at first; of PLANTED ones and those under them half of NEED, cut)");
        int[] needs = {1, 2, 3, 399, 400};
        int[] halves = {0, 1, 1, 199, 200};
        for (int i = 0; i < needs.length; i++) {
            GardenBoxes x = new GardenBoxes();
            for (int kind = 0; kind < 5; kind++) {
                x.crop(kind, needs[i], 1, Check.rest(1, 0, 1));
                x.sow(kind, kind);
            }
            CHECK.row("heat with need " + needs[i] + " of kind", bed -> x.bed(bed, 2),
                0, halves[i], 0, halves[i], 0);
        }
    }

    private static void atLeastNeed() {
        CHECK.sentence("2a", "Is that at least NEED, it OFFERS");
        GardenBoxes x = new GardenBoxes();
        for (int kind = 0; kind < 4; kind++) {
            x.crop(kind, 4, 1, Check.rest(9, 0, 1));
            x.crop(kind, 5, 1, Check.rest(9, 0, 1));
            x.sow(2 * kind, 2 * kind);
            x.sow(2 * kind + 1, 2 * kind + 1);
        }
        Check.warmAll(x, 2);
        x.hands(0);
        x.week();
        CHECK.row("offered in week 0 by bed", bed -> x.bed(bed, 3), 0, 0, 1, 0, 0, 0, 1, 0);
        x.week();
        CHECK.row("offered in week 1 by bed", bed -> x.bed(bed, 3), 1, 0, 2, 1, 1, 0, 2, 1);
        GardenBoxes y = new GardenBoxes();
        y.crop(4, 4, 1, Check.rest(9, 0, 1));
        y.crop(4, 5, 1, Check.rest(9, 0, 1));
        Check.warmAll(y, 2);
        y.sow(0, 0);
        y.sow(1, 1);
        Check.weeks(y, 2);
        CHECK.row("offered in week 1 by a gap on bed", bed -> y.bed(bed, 3), 1, 0);
    }

    private static void greatestNeed() {
        CHECK.sentence("2a", "its HEAT grows by the WARMTH of THE WEEK");
        GardenBoxes x = new GardenBoxes();
        x.crop(0, 400, 1, Check.rest(10, 0, 1));
        x.crop(1, 400, 1, Check.rest(10, 0, 1));
        Check.warmAll(x, 100);
        x.sow(0, 0);
        x.sow(1, 1);
        x.week();
        CHECK.row("heat of bed", bed -> x.bed(bed, 2), 100, 300, 0);
        x.week();
        CHECK.row("offered of bed", bed -> x.bed(bed, 3), 0, 1, 0);
        Check.weeks(x, 2);
        CHECK.row("offered of bed then", bed -> x.bed(bed, 3), 1, 3, 0);
        CHECK.row("heat of bed then", bed -> x.bed(bed, 2), 400, 600, 0);
        Check.warmAll(x, 0);
        x.week();
        CHECK.row("no warmth adds nothing", bed -> x.bed(bed, 2), 400, 600, 0);
        CHECK.row("but they offer", bed -> x.bed(bed, 3), 2, 4, 0);
    }

    private static void sownOffers() {
        CHECK.sentence("2a", "a SOWN or PLANTED one: RIPE becomes YIELD; it was OFFERED once more.");
        for (int kind = 0; kind < 2; kind++) {
            GardenBoxes x = sown(kind, 20, 10);
            for (int w = 0; w < 9; w++) {
                x.week();
                CHECK.same("offered", x.bed(0, 3), w + 1);
                CHECK.same("all that is ripe", x.lot(w, 4), 20);
            }
        }
    }

    private static void cutOffers() {
        CHECK.sentence("2a", "A CUT one: if RIPE is 0 and it does not REST: likewise");
        GardenBoxes x = sown(2, 2, 9);
        x.hands(1);
        x.week();
        CHECK.row("one is ripe still", what -> x.bed(0, what), 0, 0, 1, 1, 1, 0, -1, 0);
        x.hands(0);
        x.week();
        CHECK.row("so no offer", what -> x.bed(0, what), 0, 0, 2, 1, 1, 0, -1, 0);
    }

    private static void cutRests() {
        CHECK.sentence("2a", "if it RESTS, it RESTS one week less");
        GardenBoxes x = sown(2, 1, 9);
        int[] rests = {2, 1, 0, 2, 1, 0, 2};
        int[] offered = {1, 1, 1, 2, 2, 2, 3};
        for (int w = 0; w < rests.length; w++) {
            x.week();
            CHECK.same("rests after week " + w, x.bed(0, 5), rests[w]);
            CHECK.same("offered after week " + w, x.bed(0, 3), offered[w]);
            CHECK.same("ripe after week " + w, x.bed(0, 4), 0);
        }
    }

    private static void storedOffers() {
        CHECK.sentence("2a", "A STORED one: the first time RIPE becomes YIELD times LAST; "
            + "it was OFFERED once more each time.");
        GardenBoxes x = sown(3, 20, 10);
        x.hands(0);
        x.week();
        CHECK.row("the greatest", what -> x.bed(0, what), 0, 0, 1, 1, 200, 0, -1, 0);
        x.hands(199);
        x.week();
        CHECK.row("not again", what -> x.bed(0, what), 0, 0, 2, 2, 1, 0, -1, 0);
        GardenBoxes y = sown(3, 1, 1);
        y.hands(0);
        Check.weeks(y, 12);
        CHECK.row("the least, oftener than LAST", what -> y.bed(0, what), 0, 0, 12, 12, 1, 0, -1, 0);
    }

    private static void gapOffers() {
        CHECK.sentence("2a", "A GAP: it was OFFERED once more.");
        GardenBoxes x = sown(4, 20, 3);
        x.week();
        CHECK.row("nothing is ripe", what -> x.bed(0, what), 0, 0, 1, 1, 0, 0, -1, 0);
        x.week();
        CHECK.same("offered", x.bed(0, 3), 2);
        CHECK.same("no lot", x.count(2), 0);
        x.week();
        CHECK.row("nothing of it", what -> x.told(0, 6 + what), 0, 0, 0, 0, 0);
    }

    /** A gap of one week on bed 0, then crop 1 of a kind. */
    private static GardenBoxes onFresh(int kind, int bears, int last) {
        GardenBoxes x = sown(4, 1, 1);
        x.crop(kind, 1, bears, Check.rest(last, 12, 1));
        x.week();
        x.sow(0, 1);
        return x;
    }

    private static void freshBed() {
        CHECK.sentence("2a", "A FRESH BED's YIELD is 1 more");
        for (int kind = 0; kind < 3; kind++) {
            GardenBoxes x = onFresh(kind, 20, 2);
            x.hands(200);
            x.week();
            CHECK.same("one more than 20", x.lot(0, 4), 21);
            CHECK.same("as told", x.told(1, 2), 20);
            CHECK.same("it is fresh still", x.bed(0, 7), 1);
            Check.weeks(x, 3);
            CHECK.same("and again", x.lot(1, 4), 21);
            CHECK.same("then no more", x.bed(0, 7), 0);
        }
        GardenBoxes y = sown(0, 20, 2);
        y.hands(200);
        y.week();
        CHECK.same("no more on a bed that is not", y.lot(0, 4), 20);
    }

    private static void freshStored() {
        CHECK.sentence("2a", "YIELD means so below");
        GardenBoxes x = onFresh(3, 20, 10);
        x.hands(200);
        x.week();
        CHECK.same("as many as there are hands", x.lot(0, 4), 200);
        CHECK.same("21 times 10 less these", x.bed(0, 4), 10);
    }

    private static void handsAtFirst() {
        CHECK.sentence("2b", "HANDS (20 at first)");
        GardenBoxes x = onFresh(0, 20, 2);
        CHECK.same("hands", x.count(5), 20);
        x.week();
        CHECK.same("picked of 21", x.told(1, 7), 20);
        CHECK.same("one is lost", x.told(1, 8), 1);
    }

    private static void handsTold() {
        CHECK.sentence("P5", "HANDS become n (0 .. 200): what they were. STATUS 1.");
        GardenBoxes x = new GardenBoxes();
        CHECK.noneSuch(x, "hands", x::hands, -1, 201);
        CHECK.done(x, "they stayed", x.hands(200), 20);
        CHECK.done(x, "the most", x.hands(0), 200);
        CHECK.done(x, "none", x.hands(0), 0);
        CHECK.refused(x, "201", x.hands(201), 1);
        CHECK.same("none", x.count(5), 0);
    }

    private static void pickingOrder() {
        CHECK.sentence("2b", "of all BEDS with RIPE above 0 the one whose CROP has the least KEEP, "
            + "of these the one whose CROP has the least number, then the BED with the least number, is PICKED");
        GardenBoxes x = new GardenBoxes();
        int[] keeps = {12, 5, 0, 5};
        for (int keep : keeps) {
            x.crop(3, 1, 1, Check.rest(1, keep, 1));
        }
        Check.warmAll(x, 1);
        int[] crops = {0, 3, 1, 3, 2, 1, 0, 2};
        for (int bed = 0; bed < 8; bed++) {
            x.sow(bed, crops[bed]);
        }
        x.hands(7);
        x.week();
        CHECK.row("bed of lot", lot -> x.lot(lot, 1), 4, 7, 2, 5, 1, 3, 0, -1);
        CHECK.row("ripe on bed", bed -> x.bed(bed, 4), 0, 0, 0, 0, 0, 0, 1, 0);
    }

    private static void handsLeft() {
        CHECK.sentence("2b", "as many as there are hands left, at most RIPE");
        GardenBoxes x = sown(3, 5, 1);
        x.sow(1, 0);
        x.hands(8);
        x.week();
        CHECK.row("of lot", lot -> x.lot(lot, 4), 5, 3, -1);
        CHECK.same("ripe still", x.bed(1, 4), 2);
        x.week();
        CHECK.row("of lot then", lot -> x.lot(lot, 4), 5, 3, 2, -1);
        CHECK.row("week of lot", lot -> x.lot(lot, 3), 0, 0, 1, -1);
    }

    private static void noEmptyLot() {
        CHECK.sentence("2b", "again till no hand is left or nothing is RIPE (one BED once each WEEK)");
        GardenBoxes x = sown(3, 2, 1);
        x.sow(1, 0);
        x.hands(2);
        x.week();
        CHECK.same("no lot of none", x.count(2), 1);
        CHECK.row("ripe on bed", bed -> x.bed(bed, 4), 0, 2, 0);
        x.hands(200);
        x.week();
        CHECK.same("the other, once", x.count(2), 2);
        CHECK.row("crop on bed", bed -> x.bed(bed, 0), -1, -1, -1);
        x.week();
        CHECK.same("nothing is ripe any more", x.count(2), 2);
        GardenBoxes y = sown(0, 2, 3);
        y.hands(0);
        y.week();
        CHECK.same("no hand, no lot", y.count(2), 0);
    }

    /** 239 lots; crop 1 of a kind, with YIELD 3 and LAST 2, on beds 0 and 1. */
    private static GardenBoxes nearlyFull(int kind) {
        GardenBoxes x = new GardenBoxes();
        x.crop(5, 1, 1, Check.rest(1, 0, 1));
        x.crop(kind, 1, 3, Check.rest(2, 0, 1));
        Check.warmAll(x, 1);
        for (int i = 0; i < BUYS; i++) {
            x.buy(0, 1);
        }
        x.sow(0, 1);
        x.sow(1, 1);
        return x;
    }

    private static void lotsFull() {
        CHECK.sentence("2b", "240 LOTS at most in all: beyond that nothing is picked any more");
        GardenBoxes x = nearlyFull(0);
        x.week();
        CHECK.row("the last lot", what -> x.lot(239, what), 1, 0, 0, 0, 3, 0);
        CHECK.same("lots", x.count(2), 240);
        CHECK.same("no more", x.lot(240, 0), -1);
        CHECK.same("picked", x.told(1, 7), 3);
        CHECK.same("the other bed's are lost", x.told(1, 8), 3);
        x.week();
        CHECK.same("nothing any more", x.told(1, 7), 3);
        CHECK.same("all is lost", x.told(1, 8), 9);
        CHECK.same("lots still", x.count(2), 240);
    }

    private static void lotsFullForOthers() {
        CHECK.sentence("2b", "beyond that nothing is picked any more");
        GardenBoxes cut = nearlyFull(2);
        Check.weeks(cut, 4);
        CHECK.row("the first was picked once", what -> cut.bed(0, what), 1, 0, 4, 2, 3, 0, -1, 0);
        CHECK.row("the second never", what -> cut.bed(1, what), 1, 0, 4, 1, 3, 0, -1, 0);
        GardenBoxes stored = nearlyFull(3);
        Check.weeks(stored, 4);
        CHECK.same("the first was picked wholly", stored.bed(0, 0), -1);
        CHECK.row("the second stays", what -> stored.bed(1, what), 1, 0, 4, 4, 6, 0, -1, 0);
        CHECK.same("picked", stored.told(1, 7), 6);
    }

    private static void lost() {
        CHECK.sentence("2c", "of a SOWN or PLANTED one that OFFERED in (a), what is RIPE still is LOST (RIPE is 0)");
        int[] hands = {0, 4, 5, 6};
        int[] losses = {5, 1, 0, 0};
        for (int i = 0; i < hands.length; i++) {
            for (int kind = 0; kind < 4; kind++) {
                GardenBoxes x = sown(kind, 5, 1);
                x.hands(hands[i]);
                x.week();
                String name = " of kind " + kind + " with hands " + hands[i];
                CHECK.same("lost" + name, x.told(0, 8), kind < 2 ? losses[i] : 0);
                CHECK.same("ripe" + name, x.bed(0, 4), kind < 2 ? 0 : losses[i]);
            }
        }
    }

    private static void cutPickedWholly() {
        CHECK.sentence("2c", "A CUT one that was PICKED wholly (RIPE 0 then) in (b) RESTS 2 weeks from now on.");
        GardenBoxes x = sown(2, 5, 9);
        x.hands(4);
        x.week();
        CHECK.same("not wholly", x.bed(0, 5), 0);
        x.week();
        CHECK.same("wholly, a week later", x.bed(0, 5), 2);
        CHECK.same("it was offered once", x.bed(0, 3), 1);
        GardenBoxes y = new GardenBoxes();
        y.crop(2, 2, 5, Check.rest(9, 12, 1));
        Check.warmAll(y, 1);
        y.sow(0, 0);
        y.week();
        CHECK.row("nothing was ripe, so it was not picked", what -> y.bed(0, what), 0, 0, 1, 0, 0, 0, -1, 0);
    }

    private static void sowingEnds() {
        CHECK.sentence("2c", "a SOWN, PLANTED, GAP one that was OFFERED LAST times");
        int[] kinds = {0, 1, 4};
        int[] lasts = {1, 2, 10};
        for (int kind : kinds) {
            for (int last : lasts) {
                GardenBoxes x = sown(kind, 3, last);
                x.hands(1);
                Check.weeks(x, last - 1);
                CHECK.row("once less", what -> x.bed(0, what), 0, 0, x.bed(0, 2), last - 1, 0, 0, -1, 0);
                x.week();
                CHECK.row("it ended", what -> x.bed(0, what), -1, -1, 0, 0, 0, 0, 0, kind == 4 ? 1 : 0);
            }
        }
    }

    private static void cutEnds() {
        CHECK.sentence("2c", "a CUT one that was OFFERED LAST times and has no RIPE");
        GardenBoxes x = sown(2, 5, 1);
        x.hands(4);
        x.week();
        CHECK.row("offered LAST times, but ripe", what -> x.bed(0, what), 0, 0, 1, 1, 1, 0, -1, 0);
        x.week();
        CHECK.row("it ended", what -> x.bed(0, what), -1, -1, 0, 0, 0, 0, 0, 0);
        GardenBoxes y = sown(2, 5, 2);
        y.week();
        CHECK.row("no ripe, but offered once less", what -> y.bed(0, what), 0, 0, 1, 1, 0, 2, -1, 0);
        Check.weeks(y, 3);
        CHECK.row("it ended in week 3", what -> y.bed(0, what), -1, -1, 0, 0, 0, 0, 0, 0);
    }

    private static void storedEnds() {
        CHECK.sentence("2c", "a STORED one that was OFFERED and has no RIPE");
        GardenBoxes x = new GardenBoxes();
        x.crop(3, 4, 5, Check.rest(2, 12, 1));
        Check.warmAll(x, 1);
        x.sow(0, 0);
        x.hands(9);
        x.week();
        CHECK.row("no ripe, but not offered", what -> x.bed(0, what), 0, 0, 3, 0, 0, 0, -1, 0);
        x.week();
        CHECK.row("offered, but ripe", what -> x.bed(0, what), 0, 0, 4, 1, 1, 0, -1, 0);
        x.week();
        CHECK.row("it ended", what -> x.bed(0, what), -1, -1, 0, 0, 0, 0, 0, 0);
        GardenBoxes y = sown(3, 2, 10);
        y.week();
        CHECK.same("it ended in the week of its first offer", y.bed(0, 0), -1);
    }

    private static void freshIfGap() {
        CHECK.sentence("2c", "The SOWING ends (its BED bears none; it is FRESH if that was a GAP, else not)");
        for (int kind = 0; kind < 5; kind++) {
            GardenBoxes x = onFresh(kind, 1, 1);
            CHECK.same("fresh while it bears kind " + kind, x.bed(0, 7), 1);
            x.week();
            CHECK.row("after kind " + kind, what -> x.bed(0, what),
                -1, -1, 0, 0, 0, 0, 1, kind == 4 ? 1 : 0);
        }
    }

    private static Supplier<GardenBoxes> shop() {
        return () -> {
            GardenBoxes x = new GardenBoxes();
            for (int kind = 0; kind < 6; kind++) {
                x.crop(kind, 1, 1, Check.rest(1, 12, 1));
            }
            return x;
        };
    }

    private static void buyNumbers() {
        CHECK.sentence("P4", "n (1 .. 50) of a BOUGHT CROP come as a LOT (of no BED, of THE WEEK): its number.");
        GardenBoxes x = shop().get();
        CHECK.noneSuch(x, "n", n -> x.buy(5, n), 0, -1, 51);
        CHECK.same("no lot came", x.count(2), 0);
        CHECK.done(x, "1", x.buy(5, 1), 0);
        Check.weeks(x, 3);
        CHECK.done(x, "50", x.buy(5, 50), 1);
        CHECK.row("1", what -> x.lot(0, what), 5, -1, -1, 0, 1, 1);
        CHECK.row("50", what -> x.lot(1, what), 5, -1, -1, 3, 50, 50);
    }

    private static void buyNoSuch() {
        CHECK.sentence("P4", "STATUS 1 (also: it is no BOUGHT one)");
        GardenBoxes x = shop().get();
        CHECK.refusedFor(x, "of kind", 1, crop -> x.buy(crop, 1), 0, 1, 2, 3, 4);
        CHECK.noneSuch(x, "crop", crop -> x.buy(crop, 1), -1, 6, 7, 8);
        CHECK.same("no lot came", x.count(2), 0);
    }

    private static void buyFull() {
        CHECK.sentence("P4", "STATUS 1 (also: it is no BOUGHT one), 2");
        GardenBoxes x = shop().get();
        for (int i = 0; i < 240; i++) {
            CHECK.same("lot", x.buy(5, 1), i);
        }
        CHECK.refusedFor(x, "full", 2, n -> x.buy(5, n), 1, 50);
        CHECK.refusedFor(x, "full, and n", 1, n -> x.buy(5, n), 0, 51);
        CHECK.refusedFor(x, "full, and crop", 1, crop -> x.buy(crop, 1), 0, 6);
        CHECK.same("lots", x.count(2), 240);
        CHECK.same("bought", x.told(5, 7), 240);
        Check.weeks(x, 30);
        CHECK.refused(x, "full, and week 30", x.buy(5, 1), 2);
    }

    private static void buyInTheLastWeek() {
        CHECK.sentence("P4", "3 (THE WEEK is 30)");
        GardenBoxes x = shop().get();
        Check.weeks(x, 29);
        CHECK.done(x, "in week 29", x.buy(5, 2), 0);
        x.week();
        CHECK.refusedFor(x, "in week 30", 3, n -> x.buy(5, n), 1, 50);
        CHECK.refusedFor(x, "in week 30, and n", 1, n -> x.buy(5, n), 0, 51);
        CHECK.same("lots", x.count(2), 1);
    }

    private static void bedTold() {
        CHECK.sentence("P18", "Of a BED: 0 the CROP (NONE), 1 the WEEK in which it came (NONE), 2 HEAT (0), "
            + "3 OFFERED (0), 4 RIPE (0), 5 RESTS (0), 6 the CROP that it bore last (NONE), 7 whether it is FRESH.");
        GardenBoxes x = onFresh(2, 3, 2);
        CHECK.row("sown", what -> x.bed(0, what), 1, 1, 0, 0, 0, 0, 0, 1);
        x.week();
        CHECK.row("picked wholly", what -> x.bed(0, what), 1, 1, 1, 1, 0, 2, 0, 1);
        Check.weeks(x, 2);
        x.hands(1);
        x.week();
        CHECK.row("ripe", what -> x.bed(0, what), 1, 1, 4, 2, 3, 0, 0, 1);
        x.hands(9);
        x.week();
        CHECK.row("ended", what -> x.bed(0, what), -1, -1, 0, 0, 0, 0, 1, 0);
        CHECK.row("never sown", what -> x.bed(7, what), -1, -1, 0, 0, 0, 0, -1, 0);
    }

    private static void bedNoSuch() {
        CHECK.sentence("P18", "-1 also: no such.");
        GardenBoxes x = sown(3, 9, 9);
        x.week();
        CHECK.outside("bed", -1, bed -> x.bed(bed, 2), -1, 8, 9);
        CHECK.outside("what", -1, what -> x.bed(0, what), -1, 8, 9);
        CHECK.outside("what of a bare bed", -1, what -> x.bed(7, what), -1, 8, 9);
    }

    private static void ripensFirst() {
        CHECK.sentence("P19", "The first WEEK, from THE WEEK on, in which the SOWING of a BED will OFFER first, "
            + "by WARMTHS as told now");
        GardenBoxes x = new GardenBoxes();
        int[] needs = {1, 2, 3, 30, 31, 3};
        for (int i = 0; i < needs.length; i++) {
            x.crop(i == 5 ? 3 : 0, needs[i], 1, Check.rest(1, 0, 1));
            x.sow(i, i);
        }
        CHECK.row("without warmth", x::ripens, -1, -1, -1, -1, -1, -1, -1, -1);
        Check.warmAll(x, 1);
        CHECK.row("by 1 a week", x::ripens, 0, 1, 2, 29, -1, 1, -1, -1);
        x.week();
        CHECK.row("a week on", x::ripens, -1, 1, 2, 29, -1, 1, -1, -1);
        x.sow(6, 3);
        CHECK.same("sown a week later", x.ripens(6), -1);
        x.sheet(0, 2, 1);
        x.cell(0, 0, 16);
        x.warm(0, 29);
        CHECK.row("one more in week 29", x::ripens, -1, 1, 2, 29, 29, 1, 29, -1);
    }

    private static void ripensNone() {
        CHECK.sentence("P19", "NONE: it has OFFERED, it will not up to WEEK 29, or there is none.");
        GardenBoxes x = sown(0, 1, 10);
        x.crop(0, 400, 1, Check.rest(1, 0, 1));
        x.crop(1, 100, 1, Check.rest(1, 0, 1));
        x.sow(1, 1);
        CHECK.row("bed", x::ripens, 0, -1, -1, -1, -1, -1, -1, -1);
        CHECK.outside("no such bed", -1, x::ripens, -1, 8, 9);
        x.week();
        CHECK.same("it has offered", x.ripens(0), -1);
        Check.weeks(x, 9);
        CHECK.same("it has ended", x.ripens(0), -1);
        Check.weeks(x, 19);
        Check.warmAll(x, 100);
        x.sow(2, 2);
        CHECK.same("in week 29 itself", x.ripens(2), 29);
        CHECK.same("too late", x.ripens(1), -1);
        x.week();
        CHECK.same("in week 30", x.ripens(1), -1);
    }

    private static void lotTold() {
        CHECK.sentence("P20", "Of a LOT: 0 CROP, 1 BED (NONE), 2 the WEEK in which the SOWING came (NONE), "
            + "3 the WEEK in which it was picked, 4 how many there were, 5 how many are left.");
        GardenBoxes x = new GardenBoxes();
        x.crop(5, 1, 1, Check.rest(1, 2, 1));
        x.crop(0, 2, 4, Check.rest(1, 2, 1));
        x.house(2, 0);
        Check.warmAll(x, 1);
        x.week();
        x.sow(7, 1);
        x.week();
        x.buy(0, 3);
        x.week();
        CHECK.row("bought", what -> x.lot(0, what), 0, -1, -1, 2, 3, 2);
        CHECK.row("picked", what -> x.lot(1, what), 1, 7, 1, 2, 4, 3);
        Check.weeks(x, 2);
        CHECK.row("bought and spoilt", what -> x.lot(0, what), 0, -1, -1, 2, 3, 0);
        CHECK.row("picked and spoilt", what -> x.lot(1, what), 1, 7, 1, 2, 4, 0);
    }

    private static void lotNoSuch() {
        CHECK.sentence("P20", "-1 also: no such.");
        GardenBoxes x = shop().get();
        CHECK.outside("without lots", -1, lot -> x.lot(lot, 4), -1, 0, 239);
        x.buy(5, 7);
        x.buy(5, 8);
        CHECK.row("how many", lot -> x.lot(lot, 4), 7, 8, -1);
        CHECK.outside("lot", -1, lot -> x.lot(lot, 4), -1, 2, 239, 240);
        CHECK.outside("what", -1, what -> x.lot(1, what), -1, 6, 7);
    }
}
