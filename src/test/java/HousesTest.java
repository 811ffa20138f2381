/** Promises 6 to 8 and 21 to 25: houses, their boxes, and what is spoilt (2 d, e). */
public final class HousesTest {
    private static final Check CHECK = new Check("HousesTest");

    public static void main(String[] args) {
        houses();
        away();
        dislikes();
        placesByStock();
        sixPlaces();
        oldestLotFirst();
        turns();
        spoiling();
        had();
        fair();
        boxOfTheLatestWeek();
        sums();
        CHECK.finish();
    }

    private static GardenBoxes withBought(int crops, int keep) {
        GardenBoxes x = new GardenBoxes();
        for (int i = 0; i < crops; i++) {
            x.crop(5, 1, 1, Check.rest(1, keep, i + 1));
        }
        return x;
    }

    private static void houses() {
        GardenBoxes x = withBought(2, 3);
        CHECK.refused(x, "P6 size 0", x.house(0, 0), 1);
        CHECK.refused(x, "P6 size 7", x.house(7, 0), 1);
        CHECK.refused(x, "P6 a crop that is not there", x.house(1, 4), 1);
        CHECK.refused(x, "P6 one of each", x.house(1, 5), 1);
        CHECK.refused(x, "P6 bits below 0", x.house(1, -1), 1);
        CHECK.refused(x, "P6 the least", x.house(1, Integer.MIN_VALUE), 1);
        CHECK.done(x, "P6 size 1", x.house(1, 3), 0);
        CHECK.done(x, "P6 size 6", x.house(6, 0), 1);
        int[] told = {1, 3, 0, 0, 0, 0, 99, 99};
        for (int what = 0; what < told.length; what++) {
            CHECK.same("P24 told " + what, x.houseTold(0, what), told[what]);
        }
        CHECK.same("P24 a crop that is not there yet", x.houseTold(0, 13), 99);
        CHECK.same("P24 what 14", x.houseTold(0, 14), -1);
        CHECK.same("P24 what -1", x.houseTold(0, -1), -1);
        CHECK.same("P24 house -1", x.houseTold(-1, 0), -1);
        CHECK.same("P24 house 2", x.houseTold(2, 0), -1);
        for (int i = 2; i < 10; i++) {
            CHECK.done(x, "P6 house " + i, x.house(1, 0), i);
        }
        CHECK.refused(x, "P6 the eleventh", x.house(1, 0), 2);
        CHECK.refused(x, "P6 the eleventh, wrong too", x.house(0, 0), 1);
        CHECK.same("P27 houses", x.count(1), 10);
    }

    private static void away() {
        GardenBoxes x = withBought(1, 12);
        x.house(1, 0);
        CHECK.refused(x, "P7 house -1", x.away(-1, 0), 1);
        CHECK.refused(x, "P7 house 1", x.away(1, 0), 1);
        CHECK.refused(x, "P7 bits below 0", x.away(0, -1), 1);
        CHECK.refused(x, "P7 bit 30", x.away(0, 1 << 30), 1);
        CHECK.done(x, "P7 all", x.away(0, (1 << 30) - 1), 0);
        CHECK.done(x, "P7 what they were", x.away(0, 2 | 1 << 29), (1 << 30) - 1);
        CHECK.same("P24 weeks away", x.houseTold(0, 2), 2 | 1 << 29);
        CHECK.same("2d a hole in week 0", x.week(), 1);
        CHECK.same("2d away in week 1", x.week(), 0);
        CHECK.same("P24 boxes", x.houseTold(0, 5), 1);
        CHECK.same("2d a hole in week 2", x.week(), 1);
        Check.weeks(x, 26);
        CHECK.same("2d away in week 29", x.week(), 0);
        CHECK.same("P24 boxes in all", x.houseTold(0, 5), 28);
        CHECK.same("P24 holes in all", x.houseTold(0, 4), 28);
    }

    private static void dislikes() {
        GardenBoxes x = withBought(2, 12);
        x.house(1, 1);
        CHECK.refused(x, "P8 house 1", x.dislike(1, 0, true), 1);
        CHECK.refused(x, "P8 house -1", x.dislike(-1, 0, true), 1);
        CHECK.refused(x, "P8 crop 2", x.dislike(0, 2, true), 1);
        CHECK.refused(x, "P8 crop -1", x.dislike(0, -1, false), 1);
        CHECK.done(x, "P8 it did", x.dislike(0, 0, true), 0);
        CHECK.done(x, "P8 it did not", x.dislike(0, 1, false), 0);
        CHECK.done(x, "P8 now it does", x.dislike(0, 1, true), 1);
        CHECK.same("P24 dislikes", x.houseTold(0, 1), 3);
        x.buy(0, 9);
        x.buy(1, 5);
        CHECK.same("4 nothing is good", x.week(), 1);
        CHECK.done(x, "P8 now no more", x.dislike(0, 1, false), 1);
        CHECK.same("P24 dislikes less", x.houseTold(0, 1), 1);
        CHECK.same("4 the other is good", x.week(), 0);
        CHECK.same("P21 box", x.box(0, 0), 1);
    }

    private static void placesByStock() {
        GardenBoxes x = withBought(4, 12);
        x.house(5, 0);
        x.buy(0, 2);
        x.buy(1, 3);
        x.buy(2, 3);
        x.buy(3, 1);
        CHECK.same("P13 one hole", x.week(), 1);
        int[] crops = {1, 2, 0, 3, -1};
        int[] whys = {-1, -1, -1, -1, -2};
        int[] lots = {1, 2, 0, 3, -1};
        for (int place = 0; place < 5; place++) {
            CHECK.same("P21 box " + place, x.box(0, place), crops[place]);
            CHECK.same("P22 why " + place, x.why(0, place), whys[place]);
            CHECK.same("P23 lead " + place, x.lead(0, place), lots[place]);
        }
        int[][] outside = {{0, 5}, {0, -1}, {1, 0}, {-1, 0}};
        for (int[] at : outside) {
            CHECK.same("P21 no such", x.box(at[0], at[1]), -1);
            CHECK.same("P22 no such", x.why(at[0], at[1]), -3);
            CHECK.same("P23 no such", x.lead(at[0], at[1]), -1);
        }
        CHECK.same("P24 got", x.houseTold(0, 3), 1 + 2 + 3 + 4);
        CHECK.same("P24 holes", x.houseTold(0, 4), 1);
        CHECK.same("P24 boxes", x.houseTold(0, 5), 1);
        CHECK.same("P17 stock", x.told(1, 6), 2);
        CHECK.same("P17 in boxes", x.told(1, 9), 1);
        CHECK.same("P20 left", x.lot(3, 5), 0);
        CHECK.same("P20 were", x.lot(3, 4), 1);
    }

    private static void sixPlaces() {
        GardenBoxes x = withBought(7, 12);
        x.house(6, 0);
        for (int crop = 0; crop < 7; crop++) {
            x.buy(crop, 1 + crop);
        }
        CHECK.same("P13 no hole", x.week(), 0);
        for (int place = 0; place < 6; place++) {
            CHECK.same("P21 place " + place, x.box(0, place), 6 - place);
            CHECK.same("P22 place " + place, x.why(0, place), -1);
            CHECK.same("P23 place " + place, x.lead(0, place), 6 - place);
        }
    }

    private static void oldestLotFirst() {
        GardenBoxes x = withBought(1, 12);
        x.house(1, 0);
        x.buy(0, 1);
        x.buy(0, 2);
        x.week();
        CHECK.same("2d the first lot", x.lead(0, 0), 0);
        x.buy(0, 9);
        x.week();
        CHECK.same("2d the next", x.lead(0, 0), 1);
        x.week();
        CHECK.same("2d and again", x.lead(0, 0), 1);
        x.week();
        CHECK.same("2d the last", x.lead(0, 0), 2);
        CHECK.same("P20 left", x.lot(2, 5), 8);
    }

    private static void turns() {
        GardenBoxes x = withBought(1, 0);
        for (int i = 0; i < 3; i++) {
            x.house(1, 0);
        }
        for (int w = 0; w < 7; w++) {
            x.buy(0, 2);
            x.week();
            for (int i = 0; i < 3; i++) {
                CHECK.same("2d week " + w + " house " + i, x.box(i, 0), i == (w + 2) % 3 ? -1 : 0);
            }
        }
    }

    private static void spoiling() {
        GardenBoxes x = new GardenBoxes();
        x.crop(5, 1, 1, Check.rest(1, 0, 1));
        x.crop(5, 1, 1, Check.rest(1, 2, 1));
        x.buy(0, 5);
        x.buy(1, 7);
        x.week();
        CHECK.same("2e keep 0", x.told(0, 10), 5);
        CHECK.same("2e keep 2", x.told(1, 10), 0);
        x.week();
        CHECK.same("2e after one week", x.told(1, 10), 0);
        CHECK.same("P17 stock", x.told(1, 6), 7);
        x.week();
        CHECK.same("2e after two weeks", x.told(1, 10), 7);
        CHECK.same("P17 no stock", x.told(1, 6), 0);
        CHECK.same("P20 nothing left", x.lot(1, 5), 0);
        x.week();
        CHECK.same("2e once only", x.told(1, 10), 7);
    }

    private static void had() {
        GardenBoxes x = withBought(2, 12);
        x.house(1, 0);
        x.buy(1, 1);
        x.week();
        CHECK.same("P24 had a week ago", x.houseTold(0, 7), 1);
        CHECK.same("P24 never had", x.houseTold(0, 6), 99);
        x.week();
        CHECK.same("P24 had two weeks ago", x.houseTold(0, 7), 2);
        x.buy(1, 1);
        x.week();
        CHECK.same("P24 the latest counts", x.houseTold(0, 7), 1);
    }

    private static void fair() {
        GardenBoxes x = withBought(3, 0);
        x.house(1, 0);
        CHECK.same("P25 one house", x.fair(), 0);
        x.house(2, 0);
        x.buy(2, 1);
        x.week();
        CHECK.same("P25 no two of one size", x.fair(), 0);
        x.house(1, 0);
        CHECK.same("P25 two of one size", x.fair(), 3);
        x.house(1, 0);
        x.buy(0, 1);
        x.away(0, (1 << 30) - 1);
        x.away(1, (1 << 30) - 1);
        x.week();
        CHECK.same("P24 got", x.houseTold(2, 3) + x.houseTold(3, 3), 1);
        CHECK.same("P25 the greatest", x.fair(), 3);
    }

    private static void boxOfTheLatestWeek() {
        GardenBoxes x = withBought(1, 12);
        x.house(2, 0);
        x.buy(0, 9);
        CHECK.same("P21 no week yet", x.box(0, 0), -1);
        CHECK.same("P22 no week yet", x.why(0, 0), -3);
        CHECK.same("P23 no week yet", x.lead(0, 0), -1);
        x.week();
        x.house(2, 0);
        CHECK.same("P21 box", x.box(0, 0), 0);
        CHECK.same("P22 a house that came later", x.why(1, 0), -3);
        x.away(0, 2);
        CHECK.same("P22 the box of week 0 still", x.why(0, 0), -1);
        x.week();
        CHECK.same("P21 away", x.box(0, 0), -1);
        CHECK.same("P22 away", x.why(0, 0), -3);
        CHECK.same("P22 away, second place", x.why(0, 1), -3);
        CHECK.same("P23 away", x.lead(0, 0), -1);
        CHECK.same("P22 the other house", x.why(1, 1), -2);
    }

    private static void sums() {
        GardenBoxes x = new GardenBoxes();
        x.crop(0, 3, 7, Check.rest(3, 1, 2));
        x.crop(2, 2, 5, Check.rest(3, 2, 3));
        x.crop(5, 1, 1, Check.rest(1, 3, 4));
        Check.warmAll(x, 1);
        x.house(2, 0);
        x.house(3, 2);
        x.sow(0, 0);
        x.sow(1, 1);
        x.hands(6);
        for (int w = 0; w < 12; w++) {
            x.buy(2, 2);
            x.week();
            int worth = 0;
            for (int crop = 0; crop < 3; crop++) {
                int parts = x.told(crop, 6) + x.told(crop, 9) + x.told(crop, 10);
                CHECK.same("P17 sums of crop " + crop, parts, x.told(crop, 7));
                worth += x.told(crop, 9) * x.told(crop, 5);
            }
            CHECK.same("P24 sums of got", x.houseTold(0, 3) + x.houseTold(1, 3), worth);
        }
    }
}
