/** Ordinary boxes for promises 21 to 24 (2 d, e), and sums that agree. */
public final class HousesTest {
    private static final Check CHECK = new Check("HousesTest");

    public static void main(String[] args) {
        placesByStock();
        sixPlaces();
        sums();
        CHECK.finish();
    }

    private static void placesByStock() {
        GardenBoxes x = Gardens.shop(4, 12);
        x.house(5, 0);
        x.buy(0, 2);
        x.buy(1, 3);
        x.buy(2, 3);
        x.buy(3, 1);
        CHECK.same("P13 one hole", x.week(), 1);
        int[] crops = {1, 2, 0, 3, -1};
        int[] whys = {-1, -1, -1, -1, -2};
        int[] lots = {1, 2, 0, 3, -1};
        for (int place = 0; place < 5; place++) {
            CHECK.same("P21 box " + place, x.box(0, place), crops[place]);
            CHECK.same("P22 why " + place, x.why(0, place), whys[place]);
            CHECK.same("P23 lead " + place, x.lead(0, place), lots[place]);
        }
        CHECK.same("P24 got", x.houseTold(0, 3), 1 + 2 + 3 + 4);
        CHECK.same("P24 holes", x.houseTold(0, 4), 1);
        CHECK.same("P24 boxes", x.houseTold(0, 5), 1);
        CHECK.same("P17 stock", x.told(1, 6), 2);
        CHECK.same("P17 in boxes", x.told(1, 9), 1);
        CHECK.same("P20 left", x.lot(3, 5), 0);
        CHECK.same("P20 were", x.lot(3, 4), 1);
    }

    private static void sixPlaces() {
        GardenBoxes x = Gardens.shop(7, 12);
        x.house(6, 0);
        for (int crop = 0; crop < 7; crop++) {
            x.buy(crop, 1 + crop);
        }
        CHECK.same("P13 no hole", x.week(), 0);
        for (int place = 0; place < 6; place++) {
            CHECK.same("P21 place " + place, x.box(0, place), 6 - place);
            CHECK.same("P22 place " + place, x.why(0, place), -1);
            CHECK.same("P23 place " + place, x.lead(0, place), 6 - place);
        }
    }

    private static void sums() {
        GardenBoxes x = new GardenBoxes();
        x.crop(0, 3, 7, Check.rest(3, 1, 2));
        x.crop(2, 2, 5, Check.rest(3, 2, 3));
        x.crop(5, 1, 1, Check.rest(1, 3, 4));
        Check.warmAll(x, 1);
        x.house(2, 0);
        x.house(3, 2);
        x.sow(0, 0);
        x.sow(1, 1);
        x.hands(6);
        for (int w = 0; w < 12; w++) {
            x.buy(2, 2);
            x.week();
            int worth = 0;
            for (int crop = 0; crop < 3; crop++) {
                int parts = x.told(crop, 6) + x.told(crop, 9) + x.told(crop, 10);
                CHECK.same("P17 sums of crop " + crop, parts, x.told(crop, 7));
                worth += x.told(crop, 9) * x.told(crop, 5);
            }
            CHECK.same("P24 sums of got", x.houseTold(0, 3) + x.houseTold(1, 3), worth);
        }
    }
}
