/** Boundary cases of houses and their boxes: parts 2 (d, e) and 3, promises 6 to 8 and 21 to 25. */
public final class HouseEdgesTest {
    private static final Check CHECK = new Check("HouseEdgesTest");
    private static final int ALWAYS = (1 << 30) - 1;

    public static void main(String[] args) {
        tenHouses();
        sizes();
        dislikesAtFirst();
        statusOfHouse();
        weeksAway();
        awayNoSuch();
        dislikeToldAnew();
        dislikeNoSuch();
        turns();
        turnsOfMoreHouses();
        notAway();
        placesInTurn();
        oldestLot();
        firstOfOneWeek();
        spoiltAtOnce();
        spoiltLate();
        had();
        hadAsSoon();
        hadNone();
        got();
        box();
        boxNoSuch();
        why();
        lead();
        houseTold();
        houseToldNoSuch();
        fair();
        fairWithoutTwo();
        CHECK.finish();
    }

    private static void tenHouses() {
        CHECK.sentence("3", "HOUSES (10 at most, numbered from 0)");
        GardenBoxes x = Gardens.shop(1, 12);
        for (int i = 0; i < 10; i++) {
            CHECK.done(x, "house " + i, x.house(1, 0), i);
            CHECK.same("houses", x.count(1), i + 1);
        }
        CHECK.refused(x, "the eleventh", x.house(1, 0), 2);
        CHECK.same("houses stay", x.count(1), 10);
        CHECK.same("no eleventh", x.houseTold(10, 0), -1);
        CHECK.same("each has a hole", x.week(), 10);
        CHECK.row("boxes of house", house -> x.houseTold(house, 5), 1, 1, 1, 1, 1, 1, 1, 1, 1, 1, -1);
    }

    private static void sizes() {
        CHECK.sentence("3", "a SIZE 1 .. 6");
        GardenBoxes x = Gardens.shop(1, 12);
        CHECK.noneSuch(x, "size", size -> x.house(size, 0), 0, -1, 7, 8);
        CHECK.same("none came", x.count(1), 0);
        CHECK.done(x, "size 1", x.house(1, 0), 0);
        CHECK.done(x, "size 6", x.house(6, 0), 1);
        CHECK.same("holes", x.week(), 7);
        CHECK.row("holes of house", house -> x.houseTold(house, 4), 1, 6, -1);
    }

    private static void dislikesAtFirst() {
        CHECK.sentence("P6", "STATUS 1 (also bits of CROPS that are not there), 2.");
        GardenBoxes none = new GardenBoxes();
        CHECK.noneSuch(none, "without crops, dislikes", bits -> none.house(1, bits), 1, 2, 128, -1);
        CHECK.done(none, "without crops, no dislikes", none.house(1, 0), 0);
        GardenBoxes three = Gardens.shop(3, 12);
        CHECK.noneSuch(three, "of three crops, dislikes", bits -> three.house(1, bits), 8, 9, 15, -1, -8);
        CHECK.done(three, "all three", three.house(1, 7), 0);
        GardenBoxes eight = Gardens.shop(8, 12);
        CHECK.noneSuch(eight, "of eight crops, dislikes", bits -> eight.house(1, bits), 256, 257, -1, -128, 1 << 30);
        CHECK.done(eight, "all eight", eight.house(1, 255), 0);
        CHECK.same("told", eight.houseTold(0, 1), 255);
    }

    private static void statusOfHouse() {
        CHECK.sentence("P6", "A HOUSE: its number.");
        GardenBoxes x = Gardens.shop(1, 12);
        for (int i = 0; i < 10; i++) {
            x.house(6, 1);
        }
        CHECK.refusedFor(x, "full, size", 2, size -> x.house(size, 0), 1, 6);
        CHECK.refusedFor(x, "full, and size", 1, size -> x.house(size, 0), 0, 7);
        CHECK.refusedFor(x, "full, and dislikes", 1, bits -> x.house(1, bits), 2, -1);
    }

    private static void weeksAway() {
        CHECK.sentence("P7", "WEEKS AWAY of a HOUSE become these bits (0 .. 2^30 - 1): what they were.");
        GardenBoxes x = Gardens.shop(1, 12);
        x.house(1, 0);
        CHECK.refusedFor(x, "bits", 1, bits -> x.away(0, bits), -1, 1 << 30, (1 << 30) + 1, 1 << 31,
            Integer.MAX_VALUE);
        CHECK.done(x, "all", x.away(0, ALWAYS), 0);
        CHECK.done(x, "none", x.away(0, 0), ALWAYS);
        CHECK.done(x, "week 0", x.away(0, 1), 0);
        CHECK.done(x, "week 29", x.away(0, 1 << 29), 1);
        CHECK.same("told", x.houseTold(0, 2), 1 << 29);
    }

    private static void awayNoSuch() {
        CHECK.sentence("P7", "STATUS 1.");
        GardenBoxes x = Gardens.shop(1, 12);
        CHECK.noneSuch(x, "without houses", house -> x.away(house, 0), -1, 0, 9);
        x.house(1, 0);
        x.house(1, 0);
        CHECK.noneSuch(x, "house", house -> x.away(house, 1), -1, 2, 9, 10);
        CHECK.row("weeks away of house", house -> x.houseTold(house, 2), 0, 0, -1);
    }

    private static void dislikeToldAnew() {
        CHECK.sentence("P8", "A HOUSE dislikes a CROP from now on, or no more: 1 if it was otherwise, else 0.");
        GardenBoxes x = Gardens.shop(8, 12);
        x.house(1, 0);
        x.house(1, 255);
        for (int crop = 0; crop < 8; crop++) {
            CHECK.done(x, "no more, it did not", x.dislike(0, crop, false), 0);
            CHECK.done(x, "from now on", x.dislike(0, crop, true), 1);
            CHECK.done(x, "from now on, it did", x.dislike(0, crop, true), 0);
            CHECK.same("bits", x.houseTold(0, 1), (2 << crop) - 1);
        }
        CHECK.done(x, "no more", x.dislike(1, 7, false), 1);
        CHECK.done(x, "no more", x.dislike(1, 0, false), 1);
        CHECK.row("bits of house", house -> x.houseTold(house, 1), 255, 126);
    }

    private static void dislikeNoSuch() {
        CHECK.sentence("P8", "STATUS 1.");
        GardenBoxes x = Gardens.shop(3, 12);
        x.house(1, 0);
        CHECK.noneSuch(x, "house", house -> x.dislike(house, 0, true), -1, 1, 9, 10);
        CHECK.noneSuch(x, "crop", crop -> x.dislike(0, crop, true), -1, 3, 7, 8, 32);
        CHECK.noneSuch(x, "crop, no more", crop -> x.dislike(0, crop, false), -1, 3, 7, 8, 32);
        CHECK.same("bits", x.houseTold(0, 1), 0);
    }

    private static void turns() {
        CHECK.sentence("2d", "each HOUSE in turn, beginning with the one whose number is THE WEEK modulo how many "
            + "there are");
        for (int houses = 1; houses <= 10; houses += 3) {
            GardenBoxes x = Gardens.shop(1, 0);
            for (int i = 0; i < houses; i++) {
                x.house(1, 0);
            }
            for (int w = 0; w < 30; w++) {
                x.buy(0, 1);
                x.week();
                int first = w % houses;
                CHECK.same("of " + houses + " in week " + w + " house " + first, x.box(first, 0), 0);
                int next = (first + 1) % houses;
                CHECK.same("of " + houses + " in week " + w + " house " + next, x.box(next, 0), houses == 1 ? 0 : -1);
            }
        }
    }

    private static void turnsOfMoreHouses() {
        CHECK.sentence("2d", "THE WEEK modulo how many there are");
        GardenBoxes x = Gardens.shop(1, 0);
        Check.weeks(x, 3);
        x.house(1, 0);
        x.house(1, 0);
        x.buy(0, 1);
        x.week();
        CHECK.row("week 3 of two", house -> x.box(house, 0), -1, 0, -1);
        x.house(1, 0);
        x.buy(0, 2);
        x.week();
        CHECK.row("week 4 of three", house -> x.box(house, 0), -1, 0, 0);
        x.buy(0, 2);
        x.week();
        CHECK.row("week 5 of three", house -> x.box(house, 0), 0, -1, 0);
    }

    private static void notAway() {
        CHECK.sentence("2d", "gets a BOX if it is not AWAY in THE WEEK");
        GardenBoxes x = Gardens.shop(1, 0);
        x.house(2, 0);
        x.house(3, 0);
        x.away(0, 1 | 1 << 29);
        x.away(1, 2);
        x.buy(0, 1);
        CHECK.same("holes in week 0", x.week(), 2);
        CHECK.row("the other gets it in week 0", house -> x.box(house, 0), -1, 0);
        CHECK.same("holes in week 1", x.week(), 2);
        Check.weeks(x, 27);
        CHECK.row("boxes ahead of week 29", house -> x.houseTold(house, 5), 28, 28);
        CHECK.same("holes in week 29", x.week(), 3);
        CHECK.row("boxes", house -> x.houseTold(house, 5), 28, 29);
        GardenBoxes y = Gardens.shop(1, 0);
        y.house(6, 0);
        y.away(0, ALWAYS);
        y.buy(0, 9);
        for (int w = 0; w < 30; w++) {
            CHECK.same("always away", y.week(), 0);
        }
        CHECK.row("nothing of it", what -> y.houseTold(0, 3 + what), 0, 0, 0, 99);
    }

    private static void placesInTurn() {
        CHECK.sentence("2d", "of SIZE PLACES: each in turn is filled");
        GardenBoxes x = Gardens.shop(8, 12);
        x.house(1, 0);
        x.house(6, 0);
        for (int crop = 0; crop < 8; crop++) {
            x.buy(crop, 10 + crop);
        }
        CHECK.same("no hole", x.week(), 0);
        CHECK.row("size 1, place", place -> x.box(0, place), 7, -1, -1, -1, -1, -1, -1);
        CHECK.row("size 6, place", place -> x.box(1, place), 6, 7, 5, 4, 3, 2, -1);
        CHECK.row("boxes", house -> x.houseTold(house, 5), 1, 1);
    }

    private static void oldestLot() {
        CHECK.sentence("2d", "What it gets is taken from the LOT of that CROP with something left that was picked in "
            + "the least WEEK");
        GardenBoxes x = Gardens.shop(2, 12);
        x.house(1, 2);
        x.week();
        x.buy(1, 9);
        x.buy(0, 2);
        x.week();
        x.buy(0, 9);
        x.week();
        CHECK.row("left in lot", lot -> x.lot(lot, 5), 9, 0, 9);
        CHECK.same("of the lot of week 1", x.lead(0, 0), 1);
        x.week();
        CHECK.row("left in lot then", lot -> x.lot(lot, 5), 9, 0, 8);
        CHECK.same("of the lot of week 2", x.lead(0, 0), 2);
    }

    private static void firstOfOneWeek() {
        CHECK.sentence("2d", "of these that came first");
        GardenBoxes x = Gardens.shop(1, 12);
        x.house(1, 0);
        x.buy(0, 1);
        x.buy(0, 1);
        x.buy(0, 1);
        for (int lot = 0; lot < 3; lot++) {
            x.week();
            CHECK.same("the lot of week " + lot, x.lead(0, 0), lot);
        }
        CHECK.same("nothing is left", x.week(), 1);
    }

    private static void spoiltAtOnce() {
        CHECK.sentence("2e", "Of each LOT that was picked more than KEEP - 1 WEEKS ago (THE WEEK less its WEEK is KEEP "
            + "or more), what is left is SPOILT.");
        GardenBoxes x = Gardens.shop(1, 0);
        x.crop(5, 1, 1, Check.rest(1, 1, 1));
        x.house(2, 0);
        x.buy(0, 3);
        x.buy(1, 4);
        x.week();
        CHECK.row("keep 0, after a box", what -> x.told(0, 6 + what), 0, 3, 0, 1, 2);
        CHECK.row("keep 1, not yet", what -> x.told(1, 6 + what), 3, 4, 0, 1, 0);
        x.week();
        CHECK.row("keep 1, after a box", what -> x.told(1, 6 + what), 0, 4, 0, 2, 2);
        CHECK.row("nothing left in lot", lot -> x.lot(lot, 5), 0, 0);
        x.week();
        CHECK.same("once only", x.told(1, 10), 2);
    }

    private static void spoiltLate() {
        CHECK.sentence("2e", "THE WEEK less its WEEK is KEEP or more");
        GardenBoxes x = Gardens.shop(1, 12);
        Check.weeks(x, 2);
        x.buy(0, 5);
        x.week();
        x.buy(0, 6);
        Check.weeks(x, 11);
        CHECK.same("week 13 was done", x.count(4), 14);
        CHECK.same("none in week 13", x.told(0, 10), 0);
        x.week();
        CHECK.same("the first in week 14", x.told(0, 10), 5);
        CHECK.row("left in lot", lot -> x.lot(lot, 5), 0, 6);
        x.week();
        CHECK.same("the second in week 15", x.told(0, 10), 11);
    }

    private static void had() {
        CHECK.sentence("3", "A HOUSE HAD a CROP so many weeks ago: THE WEEK less the latest WEEK in which its BOX "
            + "had it");
        GardenBoxes x = Gardens.shop(2, 12);
        x.house(2, 0);
        x.buy(0, 1);
        x.buy(1, 1);
        x.week();
        CHECK.row("a week ago", crop -> x.houseTold(0, 6 + crop), 1, 1, 99);
        Check.weeks(x, 28);
        x.buy(1, 1);
        CHECK.row("in week 29", crop -> x.houseTold(0, 6 + crop), 29, 29, 99);
        x.week();
        CHECK.row("in week 30", crop -> x.houseTold(0, 6 + crop), 30, 1, 99);
    }

    private static void hadAsSoon() {
        CHECK.sentence("3", "so 0 as soon as a PLACE of this WEEK's BOX has it");
        GardenBoxes x = Gardens.shop(3, 12);
        x.house(2, 0);
        x.buy(0, 9);
        x.buy(1, 8);
        x.buy(2, 7);
        Check.tell(x, "give c2 when had c0=0;");
        x.week();
        CHECK.row("box", place -> x.box(0, place), 0, 2);
        CHECK.row("why", place -> x.why(0, place), -1, 0);
    }

    private static void hadNone() {
        CHECK.sentence("3", "99 if it had none");
        GardenBoxes x = Gardens.shop(8, 12);
        x.house(1, 0);
        CHECK.row("HAD of crop", crop -> x.houseTold(0, 6 + crop), 99, 99, 99, 99, 99, 99, 99, 99);
        Check.tell(x, "bar c7 when had c7=99;bar c7 when had c7<99;");
        CHECK.row("line", line -> x.holds(line, 0), 1, 0);
        x.away(0, 1);
        x.buy(7, 1);
        x.week();
        CHECK.same("it was away", x.houseTold(0, 13), 99);
        CHECK.row("line", line -> x.holds(line, 0), 1, 0);
    }

    private static void got() {
        CHECK.sentence("3", "GOT: the WORTH of all that its BOXES had.");
        GardenBoxes x = new GardenBoxes();
        for (int i = 0; i < 8; i++) {
            x.crop(5, 1, 1, Check.rest(1, 12, i < 6 ? 9 : 1));
            x.buy(i, i < 6 ? 20 : 1);
        }
        x.house(6, 0);
        x.house(1, 63);
        x.week();
        CHECK.row("after a week", house -> x.houseTold(house, 3), 54, 1);
        x.week();
        CHECK.row("after two", house -> x.houseTold(house, 3), 108, 2);
        x.week();
        CHECK.row("a hole adds none", house -> x.houseTold(house, 3), 162, 2);
    }

    private static void box() {
        CHECK.sentence("P21", "-1: a HOLE, or no such (it had no BOX in the latest WEEK that was DONE).");
        GardenBoxes x = Gardens.shop(2, 12);
        x.house(3, 0);
        x.buy(0, 9);
        x.buy(1, 1);
        CHECK.row("no week yet", place -> x.box(0, place), -1, -1, -1);
        x.week();
        x.house(3, 0);
        CHECK.row("a hole in place 2", place -> x.box(0, place), 0, 1, -1, -1);
        CHECK.row("a house that came later", place -> x.box(1, place), -1, -1, -1);
        x.away(0, 2);
        CHECK.same("its box of week 0 still", x.box(0, 0), 0);
        x.week();
        CHECK.row("away in week 1", place -> x.box(0, place), -1, -1, -1);
        CHECK.row("the other", place -> x.box(1, place), 0, -1, -1);
        x.week();
        CHECK.row("back in week 2", place -> x.box(0, place), 0, -1, -1);
    }

    private static void boxNoSuch() {
        CHECK.sentence("P21", "no such");
        GardenBoxes x = Gardens.shop(8, 12);
        for (int crop = 0; crop < 8; crop++) {
            x.buy(crop, 50);
        }
        x.house(1, 0);
        x.house(6, 0);
        x.week();
        CHECK.outside("place of size 1", -1, place -> x.box(0, place), -1, 1, 5, 6);
        CHECK.outside("place of size 6", -1, place -> x.box(1, place), -1, 6, 7);
        CHECK.outside("house", -1, house -> x.box(house, 0), -1, 2, 9, 10);
    }

    private static void why() {
        CHECK.sentence("P22", "Why: the LINE by which it is there; -1: by stock; -2: a HOLE; -3: no such.");
        GardenBoxes x = Gardens.shop(2, 12);
        x.house(3, 0);
        x.house(1, 0);
        x.buy(0, 9);
        x.buy(1, 9);
        CHECK.row("no week yet", place -> x.why(0, place), -3, -3, -3, -3);
        Check.tell(x, "bar c0 when week=9;" + "give c0 when week=9;".repeat(8) + "give c1;");
        x.week();
        CHECK.row("line 9, by stock, a hole", place -> x.why(0, place), 9, -1, -2, -3);
        CHECK.outside("place", -3, place -> x.why(0, place), -1, 3, 5, 6);
        CHECK.outside("house", -3, house -> x.why(house, 0), -1, 2, 9, 10);
        x.away(1, 2);
        x.house(1, 0);
        CHECK.same("a house that came later", x.why(2, 0), -3);
        x.week();
        CHECK.same("away", x.why(1, 0), -3);
        Check.tell(x, "");
        CHECK.row("other lines now", place -> x.why(0, place), 9, -1, -2, -3);
        GardenBoxes y = Gardens.shop(1, 12);
        y.house(1, 0);
        y.buy(0, 1);
        Check.tell(y, "bar c0;".repeat(19) + "give c0;");
        y.week();
        CHECK.same("line 19", y.why(0, 0), 19);
    }

    private static void lead() {
        CHECK.sentence("P23", "The LOT of which it is. -1: a HOLE, or no such.");
        GardenBoxes x = Gardens.shop(2, 12);
        x.house(3, 0);
        CHECK.row("no week yet", place -> x.lead(0, place), -1, -1, -1);
        x.buy(1, 1);
        x.buy(0, 9);
        x.week();
        CHECK.row("lots and a hole", place -> x.lead(0, place), 1, 0, -1, -1);
        CHECK.outside("place", -1, place -> x.lead(0, place), -1, 3, 5, 6);
        CHECK.outside("house", -1, house -> x.lead(house, 0), -1, 1, 9, 10);
        x.house(1, 0);
        CHECK.same("a house that came later", x.lead(1, 0), -1);
        x.away(0, 2);
        x.week();
        CHECK.row("away", place -> x.lead(0, place), -1, -1, -1);
        GardenBoxes y = Gardens.shop(1, 0);
        for (int i = 0; i < 240; i++) {
            y.buy(0, 1);
            if (i == 238) {
                y.week();
            }
        }
        y.house(1, 0);
        y.week();
        CHECK.same("the last of all", y.lead(0, 0), 239);
    }

    private static void houseTold() {
        CHECK.sentence("P24", "Of a HOUSE: 0 SIZE, 1 DISLIKES, 2 WEEKS AWAY, 3 GOT, 4 its HOLES in all, "
            + "5 its BOXES in all; 6 + c: HAD of CROP c (0 .. 7).");
        GardenBoxes x = Gardens.shop(8, 12);
        x.house(6, 128);
        CHECK.row("at first", what -> x.houseTold(0, what), 6, 128, 0, 0, 0, 0, 99, 99, 99, 99, 99, 99, 99, 99, -1);
        x.away(0, 2);
        x.buy(0, 1);
        x.buy(6, 1);
        x.buy(7, 1);
        Check.weeks(x, 2);
        CHECK.row("then", what -> x.houseTold(0, what), 6, 128, 2, 8, 4, 1, 2, 99, 99, 99, 99, 99, 2, 99, -1);
        x.dislike(0, 7, false);
        x.week();
        CHECK.row("at last", what -> x.houseTold(0, what), 6, 0, 2, 16, 9, 2, 3, 99, 99, 99, 99, 99, 3, 1, -1);
    }

    private static void houseToldNoSuch() {
        CHECK.sentence("P24", "-1: no such HOUSE, what.");
        GardenBoxes x = Gardens.shop(2, 12);
        CHECK.outside("without houses", -1, house -> x.houseTold(house, 0), -1, 0, 9);
        x.house(1, 0);
        CHECK.outside("house", -1, house -> x.houseTold(house, 0), -1, 1, 9, 10);
        CHECK.outside("HAD of no such house", -1, house -> x.houseTold(house, 6), -1, 1, 9, 10);
        CHECK.outside("what", -1, what -> x.houseTold(0, what), -1, 14, 15);
    }

    private static void fair() {
        CHECK.sentence("P25", "The greatest difference of GOT of two HOUSES with one SIZE");
        GardenBoxes x = Gardens.shop(8, 0);
        x.house(1, 0);
        x.house(1, 0);
        CHECK.same("both got none", x.fair(), 0);
        x.buy(7, 1);
        x.week();
        CHECK.same("8 and 0", x.fair(), 8);
        x.buy(2, 1);
        x.week();
        CHECK.same("8 and 3", x.fair(), 5);
        x.house(1, 0);
        CHECK.same("8, 3 and 0", x.fair(), 8);
        x.house(2, 0);
        x.away(0, ALWAYS);
        x.away(1, ALWAYS);
        x.away(2, ALWAYS);
        x.buy(7, 1);
        x.buy(6, 1);
        x.week();
        CHECK.same("15 of another size", x.houseTold(3, 3), 15);
        CHECK.same("it does not count", x.fair(), 8);
        x.house(2, 0);
        CHECK.same("till there are two", x.fair(), 15);
    }

    private static void fairWithoutTwo() {
        CHECK.sentence("P25", "0 without two such");
        GardenBoxes x = Gardens.shop(1, 0);
        CHECK.same("no house", x.fair(), 0);
        x.house(1, 0);
        x.buy(0, 1);
        x.week();
        CHECK.same("one house", x.fair(), 0);
        for (int size = 2; size <= 6; size++) {
            x.house(size, 0);
        }
        CHECK.same("six sizes", x.fair(), 0);
    }
}
