/** Promises 1 to 5, 18, 19 and 20, and what a week does to beds (2 a, b, c). */
public final class CropsAndBedsTest {
    private static final Check CHECK = new Check("CropsAndBedsTest");

    public static void main(String[] args) {
        newObject();
        crops();
        sowing();
        buying();
        hands();
        heat();
        ripens();
        sownBed();
        plantedBed();
        cutBed();
        storedBed();
        gapAndFresh();
        pickingOrder();
        lotsRunOut();
        CHECK.finish();
    }

    private static void newObject() {
        GardenBoxes x = new GardenBoxes();
        CHECK.same("P1 status", x.status(), 0);
        CHECK.same("P1 fault kind", x.fault(0), 0);
        CHECK.same("P1 fault place", x.fault(1), -1);
        for (int what = 0; what < 38; what++) {
            CHECK.same("P1 count " + what, x.count(what), what == 5 ? 20 : 0);
        }
        int[] bare = {-1, -1, 0, 0, 0, 0, -1, 0};
        for (int bed = 0; bed < 8; bed++) {
            for (int what = 0; what < 8; what++) {
                CHECK.same("P1 bed " + bed + " " + what, x.bed(bed, what), bare[what]);
            }
            CHECK.same("P1 ripens " + bed, x.ripens(bed), -1);
        }
        CHECK.same("P1 told", x.told(0, 0), -1);
        CHECK.same("P1 lot", x.lot(0, 0), -1);
        CHECK.same("P1 house", x.houseTold(0, 0), -1);
        CHECK.same("P1 holds", x.holds(0, 0), -1);
        CHECK.same("P1 trace", x.trace(0), -1);
        CHECK.same("P1 fair", x.fair(), 0);
        CHECK.same("P1 ahead", x.ahead(10, 0), 0);
        for (int sheet = 0; sheet < 4; sheet++) {
            CHECK.refused(x, "P1 sheet " + sheet + " is missing", x.cell(sheet, 0, 0), 10);
        }
        CHECK.done(x, "P1 a week of nothing", x.week(), 0);
    }

    private static void crops() {
        GardenBoxes x = new GardenBoxes();
        int fine = Check.rest(1, 0, 1);
        CHECK.refused(x, "P2 kind -1", x.crop(-1, 1, 1, fine), 1);
        CHECK.refused(x, "P2 kind 6", x.crop(6, 1, 1, fine), 1);
        CHECK.refused(x, "P2 need 0", x.crop(0, 0, 1, fine), 1);
        CHECK.refused(x, "P2 need 401", x.crop(0, 401, 1, fine), 1);
        CHECK.refused(x, "P2 yield 0", x.crop(0, 1, 0, fine), 1);
        CHECK.refused(x, "P2 yield 21", x.crop(0, 1, 21, fine), 1);
        CHECK.refused(x, "P2 last 0", x.crop(0, 1, 1, Check.rest(0, 0, 1)), 1);
        CHECK.refused(x, "P2 last 11", x.crop(0, 1, 1, Check.rest(11, 0, 1)), 1);
        CHECK.refused(x, "P2 keep 13", x.crop(0, 1, 1, Check.rest(1, 13, 1)), 1);
        CHECK.refused(x, "P2 worth 0", x.crop(0, 1, 1, Check.rest(1, 0, 0)), 1);
        CHECK.refused(x, "P2 worth 10", x.crop(0, 1, 1, Check.rest(1, 0, 10)), 1);
        CHECK.refused(x, "P2 rest below 0", x.crop(0, 1, 1, fine - 4096), 1);
        CHECK.refused(x, "P2 rest least", x.crop(0, 1, 1, Integer.MIN_VALUE + fine), 1);
        CHECK.same("P2 none came", x.count(0), 0);
        CHECK.done(x, "P2 least", x.crop(0, 1, 1, fine), 0);
        CHECK.done(x, "P2 most", x.crop(5, 400, 20, Check.rest(10, 12, 9)), 1);
        int[] most = {5, 400, 20, 10, 12, 9, 0, 0, 0, 0, 0};
        for (int what = 0; what < most.length; what++) {
            CHECK.same("P17 told " + what, x.told(1, what), most[what]);
        }
        CHECK.same("P17 told -1", x.told(1, -1), -1);
        CHECK.same("P17 told 11", x.told(1, 11), -1);
        CHECK.same("P17 crop -1", x.told(-1, 0), -1);
        CHECK.same("P17 crop 2", x.told(2, 0), -1);
        for (int i = 2; i < 8; i++) {
            CHECK.done(x, "P2 crop " + i, x.crop(i % 6, 10, 2, fine), i);
        }
        CHECK.refused(x, "P2 the ninth", x.crop(0, 1, 1, fine), 2);
        CHECK.refused(x, "P2 the ninth, wrong too", x.crop(6, 1, 1, fine), 1);
        CHECK.same("P2 crops", x.count(0), 8);
    }

    private static void sowing() {
        GardenBoxes x = new GardenBoxes();
        x.crop(0, 1, 2, Check.rest(1, 0, 1));
        x.crop(5, 1, 2, Check.rest(1, 0, 1));
        x.crop(0, 9, 2, Check.rest(1, 0, 1));
        CHECK.refused(x, "P3 bed -1", x.sow(-1, 0), 1);
        CHECK.refused(x, "P3 bed 8", x.sow(8, 0), 1);
        CHECK.refused(x, "P3 crop -1", x.sow(0, -1), 1);
        CHECK.refused(x, "P3 crop 3", x.sow(0, 3), 1);
        CHECK.refused(x, "P3 a bought one", x.sow(0, 1), 1);
        CHECK.done(x, "P3 sow", x.sow(0, 0), 1);
        CHECK.done(x, "P3 sow the last bed", x.sow(7, 2), 1);
        CHECK.refused(x, "P3 it bears one", x.sow(0, 2), 3);
        CHECK.refused(x, "P3 it bears one, and a bought one", x.sow(0, 1), 1);
        Check.warmAll(x, 1);
        x.week();
        CHECK.same("P18 it ended", x.bed(0, 0), -1);
        CHECK.same("P18 it bore last", x.bed(0, 6), 0);
        CHECK.refused(x, "P3 it bore this crop last", x.sow(0, 0), 3);
        CHECK.done(x, "P3 another", x.sow(0, 2), 1);
        CHECK.same("P18 came", x.bed(0, 1), 1);
        CHECK.same("P18 bed 8", x.bed(8, 2), -1);
        CHECK.same("P18 bed -1", x.bed(-1, 2), -1);
        CHECK.same("P18 what -1", x.bed(0, -1), -1);
        CHECK.same("P18 what 8", x.bed(0, 8), -1);
        Check.weeks(x, 28);
        CHECK.done(x, "P3 in week 29", x.sow(1, 0), 1);
        x.week();
        CHECK.refused(x, "P3 in week 30", x.sow(2, 0), 3);
        CHECK.refused(x, "P3 in week 30, wrong too", x.sow(2, 9), 1);
    }

    private static void buying() {
        GardenBoxes x = new GardenBoxes();
        x.crop(5, 1, 2, Check.rest(1, 12, 1));
        x.crop(3, 1, 2, Check.rest(1, 12, 1));
        CHECK.refused(x, "P4 no bought one", x.buy(1, 1), 1);
        CHECK.refused(x, "P4 crop -1", x.buy(-1, 1), 1);
        CHECK.refused(x, "P4 crop 2", x.buy(2, 1), 1);
        CHECK.refused(x, "P4 0", x.buy(0, 0), 1);
        CHECK.refused(x, "P4 51", x.buy(0, 51), 1);
        x.week();
        CHECK.done(x, "P4 1", x.buy(0, 1), 0);
        CHECK.done(x, "P4 50", x.buy(0, 50), 1);
        int[] lot = {0, -1, -1, 1, 50, 50};
        for (int what = 0; what < lot.length; what++) {
            CHECK.same("P20 lot " + what, x.lot(1, what), lot[what]);
        }
        CHECK.same("P20 what -1", x.lot(1, -1), -1);
        CHECK.same("P20 what 6", x.lot(1, 6), -1);
        CHECK.same("P20 lot -1", x.lot(-1, 0), -1);
        CHECK.same("P20 lot 2", x.lot(2, 0), -1);
        CHECK.same("P17 stock", x.told(0, 6), 51);
        CHECK.same("P17 bought", x.told(0, 7), 51);
        for (int i = 2; i < 240; i++) {
            CHECK.same("P4 lot " + i, x.buy(0, 1), i);
        }
        CHECK.refused(x, "P4 the 241st", x.buy(0, 1), 2);
        CHECK.refused(x, "P4 the 241st, wrong too", x.buy(0, 51), 1);
        CHECK.same("P27 lots", x.count(2), 240);
        Check.weeks(x, 29);
        CHECK.refused(x, "P4 no room, and week 30", x.buy(0, 1), 2);
        GardenBoxes y = new GardenBoxes();
        y.crop(5, 1, 2, Check.rest(1, 12, 1));
        Check.weeks(y, 29);
        CHECK.done(y, "P4 in week 29", y.buy(0, 1), 0);
        y.week();
        CHECK.refused(y, "P4 in week 30", y.buy(0, 1), 3);
    }

    private static void hands() {
        GardenBoxes x = new GardenBoxes();
        CHECK.refused(x, "P5 -1", x.hands(-1), 1);
        CHECK.refused(x, "P5 201", x.hands(201), 1);
        CHECK.done(x, "P5 at first", x.hands(200), 20);
        CHECK.done(x, "P5 200", x.hands(0), 200);
        CHECK.done(x, "P5 0", x.hands(7), 0);
        CHECK.same("P27 hands", x.count(5), 7);
    }

    private static void heat() {
        GardenBoxes x = new GardenBoxes();
        for (int kind = 0; kind < 5; kind++) {
            x.crop(kind, 7, 1, Check.rest(1, 0, 1));
            x.sow(kind, kind);
        }
        int[] heats = {0, 3, 0, 3, 0};
        for (int kind = 0; kind < 5; kind++) {
            CHECK.same("P18 heat at first of kind " + kind, x.bed(kind, 2), heats[kind]);
        }
        Check.warmAll(x, 2);
        x.week();
        for (int kind = 0; kind < 5; kind++) {
            CHECK.same("P18 heat grown of kind " + kind, x.bed(kind, 2), heats[kind] + 2);
        }
    }

    private static void ripens() {
        GardenBoxes x = new GardenBoxes();
        x.crop(0, 30, 1, Check.rest(2, 0, 1));
        x.crop(0, 31, 1, Check.rest(2, 0, 1));
        x.crop(0, 3, 1, Check.rest(2, 0, 1));
        x.crop(1, 3, 1, Check.rest(2, 0, 1));
        Check.warmAll(x, 1);
        for (int i = 0; i < 4; i++) {
            x.sow(i, i);
        }
        CHECK.same("P19 in week 29", x.ripens(0), 29);
        CHECK.same("P19 not up to week 29", x.ripens(1), -1);
        CHECK.same("P19 in week 2", x.ripens(2), 2);
        CHECK.same("P19 a planted one sooner", x.ripens(3), 1);
        CHECK.same("P19 bare", x.ripens(4), -1);
        CHECK.same("P19 bed -1", x.ripens(-1), -1);
        CHECK.same("P19 bed 8", x.ripens(8), -1);
        Check.weeks(x, 2);
        CHECK.same("P19 the same from week 2 on", x.ripens(2), 2);
        CHECK.same("P19 it has offered", x.ripens(3), -1);
        Check.warmAll(x, 28);
        CHECK.same("P19 by warmths as told now", x.ripens(0), 2);
        CHECK.same("P19 one later", x.ripens(1), 3);
    }

    private static void sownBed() {
        GardenBoxes x = new GardenBoxes();
        x.crop(0, 4, 5, Check.rest(2, 3, 1));
        x.sow(6, 0);
        x.hands(3);
        Check.warmAll(x, 2);
        x.week();
        CHECK.same("2a not yet", x.bed(6, 3), 0);
        x.week();
        CHECK.same("2a offered", x.bed(6, 3), 1);
        CHECK.same("2c nothing stays ripe", x.bed(6, 4), 0);
        CHECK.same("2c lost", x.told(0, 8), 2);
        CHECK.same("2b picked", x.told(0, 7), 3);
        int[] lot = {0, 6, 0, 1, 3, 3};
        for (int what = 0; what < lot.length; what++) {
            CHECK.same("P20 picked lot " + what, x.lot(0, what), lot[what]);
        }
        x.hands(20);
        x.week();
        CHECK.same("2c it ended", x.bed(6, 0), -1);
        CHECK.same("2c not fresh", x.bed(6, 7), 0);
        CHECK.same("2c heat", x.bed(6, 2), 0);
        CHECK.same("2c offered", x.bed(6, 3), 0);
        CHECK.same("2b all picked", x.told(0, 7), 8);
        CHECK.same("2c no more lost", x.told(0, 8), 2);
        CHECK.same("P27 two lots", x.count(2), 2);
    }

    private static void plantedBed() {
        GardenBoxes x = new GardenBoxes();
        x.crop(1, 5, 4, Check.rest(1, 0, 1));
        x.sow(0, 0);
        x.hands(0);
        Check.warmAll(x, 3);
        x.week();
        CHECK.same("2c planted, lost", x.told(0, 8), 4);
        CHECK.same("2c planted, ended", x.bed(0, 0), -1);
        CHECK.same("2b no hands, no lot", x.count(2), 0);
    }

    private static void cutBed() {
        GardenBoxes x = new GardenBoxes();
        x.crop(2, 1, 5, Check.rest(2, 12, 1));
        x.sow(0, 0);
        x.hands(3);
        Check.warmAll(x, 1);
        x.week();
        CHECK.same("2c what is ripe waits", x.bed(0, 4), 2);
        CHECK.same("2c no rest yet", x.bed(0, 5), 0);
        x.hands(0);
        x.week();
        CHECK.same("2a no second offer while ripe", x.bed(0, 3), 1);
        CHECK.same("2a ripe as before", x.bed(0, 4), 2);
        x.hands(20);
        x.week();
        CHECK.same("2c picked wholly", x.bed(0, 4), 0);
        CHECK.same("2c rests", x.bed(0, 5), 2);
        CHECK.same("2c it stays", x.bed(0, 0), 0);
        x.week();
        CHECK.same("2a rests less", x.bed(0, 5), 1);
        x.week();
        CHECK.same("2a rests no more", x.bed(0, 5), 0);
        CHECK.same("2a no offer in that week", x.bed(0, 3), 1);
        x.hands(4);
        x.week();
        CHECK.same("2a the second offer", x.bed(0, 3), 2);
        CHECK.same("2c offered as often as it lasts, but ripe", x.bed(0, 4), 1);
        x.week();
        CHECK.same("2c then it ends", x.bed(0, 0), -1);
        CHECK.same("2c and rests no more", x.bed(0, 5), 0);
        CHECK.same("2b picked in all", x.told(0, 7), 10);
        CHECK.same("2c a cut one loses none", x.told(0, 8), 0);
    }

    private static void storedBed() {
        GardenBoxes x = new GardenBoxes();
        x.crop(3, 2, 3, Check.rest(4, 12, 1));
        x.sow(0, 0);
        x.hands(5);
        Check.warmAll(x, 1);
        x.week();
        CHECK.same("2a all at once", x.bed(0, 4), 7);
        x.week();
        CHECK.same("2a not again", x.bed(0, 4), 2);
        CHECK.same("2a offered each time", x.bed(0, 3), 2);
        x.hands(0);
        Check.weeks(x, 6);
        CHECK.same("2c it waits as long as it must", x.bed(0, 3), 8);
        x.hands(2);
        x.week();
        CHECK.same("2c then it ends", x.bed(0, 0), -1);
        CHECK.same("2b picked in all", x.told(0, 7), 12);
        CHECK.same("2c none is lost", x.told(0, 8), 0);
    }

    private static void gapAndFresh() {
        GardenBoxes x = new GardenBoxes();
        x.crop(4, 1, 20, Check.rest(2, 0, 1));
        x.crop(0, 1, 3, Check.rest(2, 0, 1));
        x.crop(3, 1, 3, Check.rest(2, 0, 1));
        Check.warmAll(x, 1);
        x.sow(0, 0);
        x.week();
        CHECK.same("2a a gap offers", x.bed(0, 3), 1);
        CHECK.same("2a a gap bears nothing", x.bed(0, 4), 0);
        CHECK.same("2c not fresh yet", x.bed(0, 7), 0);
        x.week();
        CHECK.same("2c the gap ended", x.bed(0, 0), -1);
        CHECK.same("2c fresh", x.bed(0, 7), 1);
        CHECK.same("2c it bore the gap", x.bed(0, 6), 0);
        CHECK.done(x, "P3 the same crop, being fresh", x.sow(0, 0), 1);
        Check.weeks(x, 2);
        CHECK.done(x, "P3 sown after the gap", x.sow(0, 1), 1);
        CHECK.same("P18 fresh while it bears", x.bed(0, 7), 1);
        Check.weeks(x, 2);
        CHECK.same("2a one more each time", x.told(1, 7), 8);
        CHECK.same("P17 the yield as told", x.told(1, 2), 3);
        CHECK.same("2c fresh no more", x.bed(0, 7), 0);
        x.sow(0, 0);
        Check.weeks(x, 2);
        x.sow(0, 2);
        x.week();
        CHECK.same("2a (yield and 1) times last", x.told(2, 7), 8);
        CHECK.same("2b no lot of a gap", x.told(0, 7), 0);
    }

    private static void pickingOrder() {
        GardenBoxes x = new GardenBoxes();
        x.crop(3, 1, 2, Check.rest(1, 5, 1));
        x.crop(3, 1, 2, Check.rest(1, 4, 1));
        x.crop(3, 1, 2, Check.rest(1, 5, 1));
        Check.warmAll(x, 1);
        int[] sown = {2, 0, 1, 0, 1};
        for (int bed = 0; bed < sown.length; bed++) {
            x.sow(bed, sown[bed]);
        }
        x.hands(9);
        x.week();
        int[] beds = {2, 4, 1, 3, 0};
        int[] amounts = {2, 2, 2, 2, 1};
        for (int lot = 0; lot < beds.length; lot++) {
            CHECK.same("2b bed of lot " + lot, x.lot(lot, 1), beds[lot]);
            CHECK.same("2b amount of lot " + lot, x.lot(lot, 4), amounts[lot]);
        }
        CHECK.same("2b no more lots", x.count(2), 5);
        CHECK.same("2b one stays ripe", x.bed(0, 4), 1);
    }

    private static void lotsRunOut() {
        GardenBoxes x = new GardenBoxes();
        x.crop(5, 1, 1, Check.rest(1, 0, 1));
        x.crop(0, 1, 3, Check.rest(10, 0, 1));
        Check.warmAll(x, 1);
        for (int i = 0; i < 239; i++) {
            x.buy(0, 1);
        }
        x.sow(0, 1);
        x.sow(1, 1);
        x.week();
        CHECK.same("2b the last lot", x.lot(239, 1), 0);
        CHECK.same("2b no lot beyond", x.count(2), 240);
        CHECK.same("2b nothing picked beyond", x.told(1, 7), 3);
        CHECK.same("2c so it is lost", x.told(1, 8), 3);
        x.week();
        CHECK.same("2b nothing picked any more", x.told(1, 7), 3);
        CHECK.same("2c all is lost", x.told(1, 8), 9);
    }
}
