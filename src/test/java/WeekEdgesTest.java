import java.util.function.Consumer;
import java.util.function.Supplier;

/** Boundary cases of weeks, warmths and images: part 1, promises 12 to 16 and 27. */
public final class WeekEdgesTest {
    private static final Check CHECK = new Check("WeekEdgesTest");

    public static void main(String[] args) {
        thirtyWeeks();
        weekRefused();
        holesOfAWeek();
        warmthsAtFirst();
        cutToWholeOnes();
        meanOfBoth();
        meanOfThoseThatAreThere();
        withoutAny();
        warmTold();
        warmNoSuch();
        warmMissing();
        warmOtherSort();
        warmBeyond();
        warmNotSo();
        warmInThisOrder();
        warmEmpty();
        aheadNumbers();
        aheadAsFarAs29();
        aheadNoSuch();
        aheadNothingElse();
        imageKeepsAll();
        imageOfTheMost();
        imageLeavesOut();
        imageInPlace();
        backNone();
        backTenTimes();
        backStays();
        counts();
        countAnother();
        calls();
        CHECK.finish();
    }

    private static void thirtyWeeks() {
        CHECK.sentence("1", "THE WEEK is 0 at first; it is 30 when WEEK 29 was DONE.");
        GardenBoxes x = new GardenBoxes();
        for (int w = 0; w < 30; w++) {
            CHECK.same("the week", x.count(4), w);
            CHECK.done(x, "week " + w, x.week(), 0);
        }
        CHECK.same("the last", x.count(4), 30);
    }

    private static void weekRefused() {
        CHECK.sentence("P13", "STATUS 3 (it is 30).");
        GardenBoxes x = Gardens.season();
        Check.weeks(x, 25);
        CHECK.done(x, "week 29", x.week(), 8);
        CHECK.refusedFor(x, "week 30, time", 3, i -> x.week(), 1, 2);
        CHECK.same("it stays 30", x.count(4), 30);
        CHECK.row("boxes of house", house -> x.houseTold(house, 5), 30, 29, 30);
    }

    private static void holesOfAWeek() {
        CHECK.sentence("P13", "THE WEEK is DONE: how many HOLES its BOXES had.");
        GardenBoxes x = new GardenBoxes();
        x.crop(5, 1, 1, Check.rest(1, 0, 1));
        CHECK.done(x, "without houses", x.week(), 0);
        for (int i = 0; i < 10; i++) {
            x.house(6, 0);
        }
        CHECK.done(x, "ten houses of size 6", x.week(), 60);
        x.buy(0, 10);
        CHECK.done(x, "one for each", x.week(), 50);
        CHECK.done(x, "nothing again", x.week(), 60);
        CHECK.same("in all of one", x.houseTold(9, 4), 17);
    }

    private static void warmthsAtFirst() {
        CHECK.sentence("1", "WARMTHS: of each WEEK 0 .. 29 a number of eighths (0 .. 800), or NO NUMBER (all are 0 at "
            + "first).");
        GardenBoxes x = new GardenBoxes();
        for (int w = 0; w < 30; w++) {
            CHECK.same("week " + w, x.count(8 + w), 0);
        }
        Check.warmAll(x, 100);
        for (int w = 0; w < 30; w++) {
            CHECK.same("week " + w + " then", x.count(8 + w), 100);
        }
    }

    /** Warmths of 3, but from week w on these eighths. */
    private static GardenBoxes warmed(int w, int... eighths) {
        GardenBoxes x = new GardenBoxes();
        Check.warmAll(x, 3);
        Check.warmFrom(x, w, eighths);
        return x;
    }

    private static void cutToWholeOnes() {
        CHECK.sentence("1", "The WARMTH of a WEEK: its number cut to whole ones");
        GardenBoxes x = warmed(0, 0, 1, 7, 8, 9, 15, 16, 791, 792, 799, 800);
        CHECK.row("week", w -> x.count(8 + w), 0, 0, 0, 1, 1, 1, 2, 98, 99, 99, 100, 3);
    }

    private static void meanOfBoth() {
        CHECK.sentence("1", "of NO NUMBER the mean of both its neighbours' numbers (cut to whole ones at the end");
        int[][] both = {{8, 8, 1}, {7, 9, 1}, {8, 7, 0}, {15, 1, 1}, {15, 16, 1}, {16, 16, 2}, {800, 800, 100},
            {800, 0, 50}, {0, 800, 50}, {799, 800, 99}, {0, 0, 0}, {0, 15, 0}, {0, 16, 1}};
        for (int[] pair : both) {
            GardenBoxes x = warmed(5, pair[0], -1, pair[1]);
            CHECK.same("between " + pair[0] + " and " + pair[1], x.count(8 + 6), pair[2]);
        }
        GardenBoxes second = warmed(0, 80, -1, 160);
        CHECK.same("week 1", second.count(8 + 1), 15);
        GardenBoxes lastButOne = warmed(27, 80, -1, 160);
        CHECK.same("week 28", lastButOne.count(8 + 28), 15);
    }

    private static void meanOfThoseThatAreThere() {
        CHECK.sentence("1", "of those that are there and are numbers");
        GardenBoxes first = warmed(0, -1, 17);
        CHECK.same("week 0", first.count(8), 2);
        GardenBoxes last = warmed(28, 39, -1);
        CHECK.same("week 29", last.count(8 + 29), 4);
        GardenBoxes two = warmed(10, 15, -1, -1, 80);
        CHECK.row("two of them", w -> two.count(8 + 10 + w), 1, 1, 10, 10, 3);
    }

    private static void withoutAny() {
        CHECK.sentence("1", "0 without any");
        GardenBoxes three = warmed(10, 80, -1, -1, -1, 80);
        CHECK.row("three of them", w -> three.count(8 + 10 + w), 10, 10, 0, 10, 10, 3);
        GardenBoxes first = warmed(0, -1, -1, 80);
        CHECK.row("the first two", w -> first.count(8 + w), 0, 10, 10, 3);
        GardenBoxes last = warmed(27, 80, -1, -1);
        CHECK.row("the last two", w -> last.count(8 + 27 + w), 10, 10, 0, -1);
    }

    private static void warmTold() {
        CHECK.sentence("P12", "WARMTHS of WEEKS from w on become the numbers of a SHEET that is taken for floats (what "
            + "is no number there is NO NUMBER): how many were told.");
        GardenBoxes x = new GardenBoxes();
        x.sheet(1, 2, 30);
        x.cell(1, 0, 80);
        x.cell(1, 29, 160);
        CHECK.done(x, "all", x.warm(1, 0), 30);
        CHECK.same("week 0", x.count(8), 10);
        CHECK.same("week 29", x.count(8 + 29), 20);
        x.sheet(2, 2, 1);
        CHECK.done(x, "the last", x.warm(2, 29), 1);
        CHECK.same("week 29 then", x.count(8 + 29), 0);
        x.none(2, 0);
        CHECK.done(x, "no number", x.warm(2, 1), 1);
        CHECK.row("week", w -> x.count(8 + w), 10, 5, 0);
        Check.weeks(x, 30);
        CHECK.done(x, "in week 30", x.warm(1, 0), 30);
    }

    private static void warmNoSuch() {
        CHECK.sentence("P12", "STATUS 1 (no such SHEET, WEEK)");
        GardenBoxes x = new GardenBoxes();
        x.sheet(0, 2, 0);
        CHECK.noneSuch(x, "sheet", sheet -> x.warm(sheet, 0), -1, 4, 5);
        CHECK.noneSuch(x, "week", w -> x.warm(0, w), -1, 30, 31);
    }

    private static void warmMissing() {
        CHECK.sentence("P12", "10 nothing where something is asked");
        GardenBoxes x = new GardenBoxes();
        CHECK.refusedFor(x, "sheet", 10, sheet -> x.warm(sheet, 0), 0, 1, 2, 3);
        x.sheet(3, 2, 1);
        CHECK.done(x, "there", x.warm(3, 0), 1);
        x.sheet(3, -1, 1);
        CHECK.refused(x, "missing again", x.warm(3, 0), 10);
    }

    private static void warmOtherSort() {
        CHECK.sentence("P12", "11 a thing of another sort or KIND");
        GardenBoxes x = new GardenBoxes();
        x.sheet(0, 0, 1);
        x.sheet(1, 1, 1);
        x.sheet(2, 0, 0);
        x.sheet(3, 1, 0);
        CHECK.refusedFor(x, "sheet", 11, sheet -> x.warm(sheet, 0), 0, 1, 2, 3);
    }

    private static void warmBeyond() {
        CHECK.sentence("P12", "12 (it goes beyond WEEK 29)");
        GardenBoxes x = new GardenBoxes();
        x.sheet(0, 2, 2);
        CHECK.refusedFor(x, "two from week", 12, w -> x.warm(0, w), 29);
        CHECK.done(x, "two from week 28", x.warm(0, 28), 2);
        x.sheet(1, 2, 31);
        CHECK.refusedFor(x, "31 from week", 12, w -> x.warm(1, w), 0, 1, 29);
        x.sheet(2, 2, 40);
        CHECK.refusedFor(x, "40 from week", 12, w -> x.warm(2, w), 0, 29);
        x.sheet(3, 2, 30);
        CHECK.refusedFor(x, "30 from week", 12, w -> x.warm(3, w), 1, 29);
        CHECK.done(x, "30 from week 0", x.warm(3, 0), 30);
    }

    private static void warmNotSo() {
        CHECK.sentence("P12", "3 (a number that is below 0 or above 100)");
        GardenBoxes x = new GardenBoxes();
        Check.warmAll(x, 3);
        x.sheet(0, 2, 3);
        int[] wrong = {-1000, -8, -1, 801, 808, 1000};
        for (int place = 0; place < 3; place++) {
            int at = place;
            CHECK.refusedFor(x, "in place " + place, 3, v -> x.cell(0, at, v) == 1 ? x.warm(0, 0) : 0, wrong);
            x.cell(0, place, 800);
        }
        CHECK.row("nothing was told, week", w -> x.count(8 + w), 3, 3, 3);
        x.cell(0, 1, 0);
        x.none(0, 2);
        CHECK.done(x, "0, 100 and no number", x.warm(0, 0), 3);
        CHECK.row("week", w -> x.count(8 + w), 100, 0, 1, 3);
    }

    private static void warmInThisOrder() {
        CHECK.sentence("P12", "these in this order");
        GardenBoxes x = new GardenBoxes();
        CHECK.refusedFor(x, "no such week, missing", 1, w -> x.warm(0, w), 30);
        x.sheet(0, 0, 40);
        x.cell(0, 0, -1);
        CHECK.refusedFor(x, "no such week, bytes", 1, w -> x.warm(0, w), 30);
        CHECK.refusedFor(x, "bytes, beyond, below 0", 11, w -> x.warm(0, w), 0);
        x.sheet(0, 2, 2);
        x.cell(0, 0, -1);
        CHECK.refusedFor(x, "beyond, below 0", 12, w -> x.warm(0, w), 29);
        CHECK.refusedFor(x, "below 0", 3, w -> x.warm(0, w), 28);
    }

    private static void warmEmpty() {
        CHECK.sentence("P12", "how many were told");
        GardenBoxes x = new GardenBoxes();
        Check.warmAll(x, 3);
        x.sheet(0, 2, 0);
        CHECK.done(x, "none from week 0", x.warm(0, 0), 0);
        CHECK.done(x, "none from week 29", x.warm(0, 29), 0);
        CHECK.same("week 0 stays", x.count(8), 3);
        CHECK.same("week 29 stays", x.count(8 + 29), 3);
    }

    private static void aheadNumbers() {
        CHECK.sentence("P14", "How many HOLES (what 0), WORTH in BOXES (1), SPOILT (2), LOST (3) the next n (1 .. 10) "
            + "WEEKS will have together if nothing else is told");
        GardenBoxes x = new GardenBoxes();
        x.crop(0, 2, 5, Check.rest(9, 0, 9));
        Check.warmAll(x, 1);
        x.house(2, 0);
        x.sow(0, 0);
        x.hands(3);
        CHECK.row("1 week, what", what -> x.ahead(1, what), 2, 0, 0, 0, -1);
        CHECK.row("2 weeks, what", what -> x.ahead(2, what), 3, 9, 2, 2, -1);
        CHECK.row("10 weeks, what", what -> x.ahead(10, what), 11, 81, 18, 18, -1);
        x.week();
        CHECK.row("a week on, 10 weeks, what", what -> x.ahead(10, what), 11, 81, 18, 18, -1);
        CHECK.row("a week on, 9 weeks, what", what -> x.ahead(9, what), 9, 81, 18, 18, -1);
    }

    private static void aheadAsFarAs29() {
        CHECK.sentence("P14", "(as far as WEEK 29)");
        GardenBoxes x = new GardenBoxes();
        x.house(6, 0);
        CHECK.same("10 of 30", x.ahead(10, 0), 60);
        Check.weeks(x, 20);
        CHECK.same("the last 10", x.ahead(10, 0), 60);
        x.week();
        CHECK.same("9 are left", x.ahead(10, 0), 54);
        CHECK.same("9 of 9", x.ahead(9, 0), 54);
        Check.weeks(x, 8);
        CHECK.same("1 is left", x.ahead(10, 0), 6);
        x.week();
        CHECK.row("none is left", what -> x.ahead(10, what), 0, 0, 0, 0, -1);
    }

    private static void aheadNoSuch() {
        CHECK.sentence("P14", "-1: no such.");
        GardenBoxes x = Gardens.season();
        CHECK.outside("n", -1, n -> x.ahead(n, 0), 0, -1, 11, 12);
        CHECK.outside("what", -1, what -> x.ahead(1, what), -1, 4, 5);
        CHECK.outside("both", -1, what -> x.ahead(11, what), -1, 0, 3, 4);
    }

    private static void alike(String what, Supplier<GardenBoxes> one, Supplier<GardenBoxes> other) {
        CHECK.same(what + ": alike", Portrait.of(one).equals(Portrait.of(other)) ? 1 : 0, 1);
    }

    private static void aheadNothingElse() {
        CHECK.sentence("P14", "will have together if nothing else is told");
        Supplier<GardenBoxes> plain = Gardens::season;
        Supplier<GardenBoxes> imaged = Gardens.with(Gardens.with(plain, GardenBoxes::image), GardenBoxes::week);
        alike("ahead", plain, Gardens.with(plain, x -> x.ahead(10, 1)));
        alike("ahead, refused", plain, Gardens.with(plain, x -> x.ahead(11, 1)));
        alike("ahead with an image", imaged, Gardens.with(imaged, x -> x.ahead(10, 3)));
    }

    /** Much else is told, of all that an image keeps. */
    private static void tellMuch(GardenBoxes x) {
        x.crop(5, 3, 4, Check.rest(5, 6, 7));
        x.crop(0, 3, 4, Check.rest(5, 6, 7));
        x.house(6, 0);
        x.sow(7, 7);
        x.sow(6, 2);
        x.buy(6, 30);
        x.hands(100);
        x.away(0, 1023);
        x.dislike(0, 3, true);
        Check.tell(x, "give c5;give c4;bar c0;give c6 when week<20;");
        x.sheet(3, 2, 20);
        x.cell(3, 7, 90);
        x.none(3, 8);
        x.warm(3, 2);
        x.sheet(3, -1, 0);
        Check.weeks(x, 5);
    }

    /** Told something besides, then gone back: all is as it was at the image. */
    private static void goneBack(String what, Supplier<GardenBoxes> recipe, Consumer<GardenBoxes> besides) {
        Supplier<GardenBoxes> kept = Gardens.with(recipe, GardenBoxes::image);
        Supplier<GardenBoxes> back = Gardens.with(Gardens.with(kept, besides), GardenBoxes::back);
        CHECK.same(what + ": as before", Portrait.asked(recipe).equals(Portrait.asked(back)) ? 1 : 0, 1);
        alike(what, Gardens.with(kept, GardenBoxes::back), back);
    }

    private static void imageKeepsAll() {
        CHECK.sentence("P15", "All (but SHEETS, THE TAPE, THE FAULT, THE TRACE, how often it was gone back) is kept as "
            + "an IMAGE");
        goneBack("nothing", Gardens::season, x -> { });
        goneBack("much", Gardens::season, WeekEdgesTest::tellMuch);
        goneBack("a whole season, from nothing", GardenBoxes::new, WeekEdgesTest::wholeSeason);
    }

    private static void wholeSeason(GardenBoxes x) {
        x.crop(4, 1, 1, Check.rest(1, 0, 1));
        x.crop(5, 1, 1, Check.rest(1, 0, 1));
        x.sheet(3, 2, 2);
        x.cell(3, 0, 8);
        x.warm(3, 0);
        x.sheet(3, -1, 0);
        x.sow(0, 0);
        x.house(2, 0);
        x.buy(1, 9);
        Check.tell(x, "give c1;");
        Check.weeks(x, 30);
    }

    private static void imageOfTheMost() {
        CHECK.sentence("P15", "is kept as an IMAGE");
        goneBack("the last of all", Gardens::brim, x -> {
            Check.tell(x, "give c7;give c6;give c5;give c4;give c3;give c0;");
            x.hands(16);
            x.sheet(3, 2, 1);
            x.cell(3, 0, 99);
            x.warm(3, 29);
            x.sheet(3, -1, 0);
            x.away(9, 1 << 5);
            Check.weeks(x, 4);
        });
    }

    private static void imageLeavesOut() {
        CHECK.sentence("P15", "(but SHEETS, THE TAPE, THE FAULT, THE TRACE, how often it was gone back)");
        GardenBoxes x = Gardens.season();
        x.sheet(0, 1, 2);
        x.act(0, 0, 1);
        x.feed(2, 0);
        x.image();
        x.cell(0, 1, 9);
        x.sheet(1, 0, 2);
        x.feed(3, 0);
        x.act(0, 3, 1);
        x.back();
        CHECK.same("a number of a sheet", x.forge(2, 1, 0), 9);
        CHECK.same("a sheet", x.forge(3, 1, 1), 0);
        CHECK.same("the tape", x.count(6), 5);
        CHECK.same("the trace", x.count(7), 4);
        CHECK.refused(x, "a fault", x.lines(), 3);
        x.back();
        CHECK.row("the fault", x::fault, 1, 0);
        CHECK.same("the tape is empty still", x.count(6), 0);
    }

    private static void imageInPlace() {
        CHECK.sentence("P15", "in place of one before: 1");
        GardenBoxes x = Gardens.season();
        CHECK.done(x, "the first", x.image(), 1);
        x.week();
        x.hands(3);
        CHECK.done(x, "the second", x.image(), 1);
        CHECK.done(x, "the third, of the same", x.image(), 1);
        Check.weeks(x, 2);
        x.hands(4);
        CHECK.done(x, "back", x.back(), 5);
        CHECK.same("hands", x.count(5), 3);
    }

    private static void backNone() {
        CHECK.sentence("P16", "STATUS 3 (there is none)");
        GardenBoxes x = Gardens.season();
        CHECK.refusedFor(x, "time", 3, i -> x.back(), 1, 2, 3, 4, 5, 6, 7, 8, 9, 10, 11, 12);
        CHECK.same("the week stays", x.count(4), 4);
        x.image();
        CHECK.done(x, "refusals are no times", x.back(), 4);
    }

    private static void backTenTimes() {
        CHECK.sentence("P16", "2 (this was done 10 times)");
        GardenBoxes x = Gardens.season();
        x.image();
        for (int i = 0; i < 10; i++) {
            x.week();
            CHECK.done(x, "time " + i, x.back(), 4);
        }
        x.week();
        CHECK.refusedFor(x, "the eleventh, time", 2, i -> x.back(), 1, 2);
        CHECK.same("the week stays", x.count(4), 5);
        CHECK.done(x, "a new image", x.image(), 1);
        CHECK.refused(x, "not to that either", x.back(), 2);
    }

    private static void backStays() {
        CHECK.sentence("P16", "All is as the IMAGE has it, which stays: THE WEEK.");
        GardenBoxes x = Gardens.season();
        x.image();
        Check.weeks(x, 26);
        CHECK.done(x, "from week 30", x.back(), 4);
        CHECK.same("the week", x.count(4), 4);
        CHECK.done(x, "again at once", x.back(), 4);
        GardenBoxes last = new GardenBoxes();
        Check.weeks(last, 30);
        last.image();
        CHECK.done(last, "to week 30", last.back(), 30);
        CHECK.refused(last, "which is the last", last.week(), 3);
    }

    private static void counts() {
        CHECK.sentence("P27", "How many: 0 CROPS, 1 HOUSES, 2 LOTS, 3 LINES, 4 THE WEEK, 5 HANDS, 6 bytes of THE TAPE, "
            + "7 THE TRACE's bodies; 8 + w: the WARMTH of WEEK w (0 .. 29).");
        GardenBoxes x = new GardenBoxes();
        for (int i = 0; i < 8; i++) {
            x.crop(5, 1, 1, Check.rest(1, 0, 1));
        }
        for (int i = 0; i < 10; i++) {
            x.house(1, 0);
        }
        for (int i = 0; i < 240; i++) {
            x.buy(7, 1);
        }
        Check.tell(x, "bar c7;".repeat(20));
        for (int i = 0; i < 25; i++) {
            x.feed(8, 0);
        }
        Check.weeks(x, 30);
        x.hands(200);
        x.act(7, 3, 0);
        x.sheet(0, 2, 1);
        x.cell(0, 0, 800);
        x.warm(0, 0);
        x.warm(0, 29);
        CHECK.row("the most", x::count, 8, 10, 240, 20, 30, 200, 200, 10, 100, 0);
        CHECK.same("week 28", x.count(8 + 28), 0);
        CHECK.same("week 29", x.count(8 + 29), 100);
    }

    private static void countAnother() {
        CHECK.sentence("P27", "-1: another.");
        GardenBoxes x = Gardens.season();
        CHECK.outside("what", -1, x::count, -1, 38, 39);
    }

    private static void calls() {
        CHECK.sentence("0", "An object is used for at most 512 calls after it has been made");
        GardenBoxes x = Gardens.season();
        GardenBoxes y = new GardenBoxes();
        for (int i = 0; i < 511; i++) {
            y.hands(i % 7);
        }
        CHECK.same("the 512th", y.hands(9), 510 % 7);
        int due = x.ahead(10, 1);
        for (int i = 0; i < 400; i++) {
            x.ahead(10, i % 4);
        }
        CHECK.same("after many of the dearest", x.ahead(10, 1), due);
    }
}
