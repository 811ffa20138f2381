import java.util.LinkedHashMap;
import java.util.Map;
import java.util.function.Supplier;
import java.util.function.ToIntFunction;

/** Boundary cases of refused calls and of questions: STATUS and promise 34. */
public final class StatusEdgesTest {
    private static final Check CHECK = new Check("StatusEdgesTest");

    public static void main(String[] args) {
        atFirst();
        doneSetsIt();
        questionsLeaveIt();
        questionsChangeNothing();
        statusOne();
        statusTwo();
        statusThree();
        statusTen();
        statusEleven();
        statusTwelve();
        statusThirteen();
        statusFourteen();
        statusFifteen();
        lowest();
        nothingElse();
        forgeChangesNothing();
        CHECK.finish();
    }

    /** As much of all as there can be; it was gone back 10 times. */
    private static GardenBoxes full() {
        GardenBoxes x = new GardenBoxes();
        for (int i = 0; i < 8; i++) {
            x.crop(5, 1, 1, Check.rest(1, 3, 1));
        }
        for (int i = 0; i < 10; i++) {
            x.house(1 + i % 6, 0);
        }
        for (int i = 0; i < 199; i++) {
            x.buy(i % 8, 1);
        }
        for (int i = 0; i < 41; i++) {
            x.buy(7, 50);
        }
        x.image();
        for (int i = 0; i < 10; i++) {
            x.back();
        }
        for (int i = 0; i < 25; i++) {
            x.feed(8, 0x2020202020202020L);
        }
        x.sheet(0, 2, 1);
        x.cell(0, 0, 801);
        return x;
    }

    private static GardenBoxes ended() {
        GardenBoxes x = new GardenBoxes();
        x.crop(0, 2, 4, Check.rest(2, 3, 1));
        x.crop(5, 2, 4, Check.rest(2, 3, 1));
        x.house(2, 0);
        x.sow(0, 0);
        Check.weeks(x, 29);
        x.buy(1, 9);
        x.week();
        return x;
    }

    private static void atFirst() {
        CHECK.sentence("P34", "STATUS.");
        GardenBoxes x = new GardenBoxes();
        CHECK.same("of a new object", x.status(), 0);
        x.hands(-1);
        CHECK.same("asked once", x.status(), 1);
        CHECK.same("asked twice", x.status(), 1);
    }

    private static Map<String, ToIntFunction<GardenBoxes>> doneCalls() {
        Map<String, ToIntFunction<GardenBoxes>> calls = new LinkedHashMap<>();
        calls.put("crop", x -> x.crop(0, 1, 1, Check.rest(1, 0, 1)));
        calls.put("sow", x -> x.sow(7, 0));
        calls.put("buy", x -> x.buy(5, 1));
        calls.put("hands", x -> x.hands(1));
        calls.put("house", x -> x.house(1, 0));
        calls.put("away", x -> x.away(0, 1));
        calls.put("dislike", x -> x.dislike(0, 0, true));
        calls.put("feed", x -> x.feed(1, 0));
        calls.put("lines", x -> x.feed(7, 0) + x.lines() + x.lines());
        calls.put("warm", x -> x.warm(2, 0));
        calls.put("week", GardenBoxes::week);
        calls.put("image", GardenBoxes::image);
        calls.put("back", GardenBoxes::back);
        calls.put("sheet", x -> x.sheet(0, 0, 0));
        calls.put("cell", x -> x.cell(0, 0, 0));
        calls.put("none", x -> x.none(2, 0));
        calls.put("act", x -> x.act(0, 0, 0));
        calls.put("forge", x -> x.forge(1, 0, 0));
        return calls;
    }

    private static void doneSetsIt() {
        CHECK.sentence("STATUS", "STATUS of the latest call that is no question (crop, sow, buy, hands, house, away, "
            + "dislike, feed, lines, warm, week, image, back, sheet, cell, none, act, forge): 0 done");
        for (Map.Entry<String, ToIntFunction<GardenBoxes>> call : doneCalls().entrySet()) {
            GardenBoxes x = Gardens.life();
            x.forge(5, 0, 0);
            CHECK.same("ahead of " + call.getKey(), x.status(), 15);
            call.getValue().applyAsInt(x);
            CHECK.same("after " + call.getKey(), x.status(), 0);
        }
    }

    private static Map<String, ToIntFunction<GardenBoxes>> questions() {
        Map<String, ToIntFunction<GardenBoxes>> calls = new LinkedHashMap<>();
        calls.put("fault", x -> x.fault(0) + x.fault(2));
        calls.put("ahead", x -> x.ahead(10, 0) + x.ahead(0, 0));
        calls.put("told", x -> x.told(0, 0) + x.told(9, 0));
        calls.put("bed", x -> x.bed(0, 0) + x.bed(9, 0));
        calls.put("ripens", x -> x.ripens(0) + x.ripens(9));
        calls.put("lot", x -> x.lot(0, 0) + x.lot(-1, 0));
        calls.put("box", x -> x.box(0, 0) + x.box(9, 9));
        calls.put("why", x -> x.why(0, 0) + x.why(9, 9));
        calls.put("lead", x -> x.lead(0, 0) + x.lead(9, 9));
        calls.put("houseTold", x -> x.houseTold(0, 0) + x.houseTold(9, 99));
        calls.put("fair", GardenBoxes::fair);
        calls.put("holds", x -> x.holds(0, 0) + x.holds(9, 9));
        calls.put("count", x -> x.count(0) + x.count(99));
        calls.put("trace", x -> x.trace(0) + x.trace(99));
        calls.put("status", GardenBoxes::status);
        return calls;
    }

    private static void questionsLeaveIt() {
        CHECK.sentence("STATUS", "STATUS of the latest call that is no question");
        for (Map.Entry<String, ToIntFunction<GardenBoxes>> call : questions().entrySet()) {
            GardenBoxes x = Gardens.life();
            x.forge(5, 0, 0);
            call.getValue().applyAsInt(x);
            CHECK.same("refused, then " + call.getKey(), x.status(), 15);
            x.hands(20);
            call.getValue().applyAsInt(x);
            CHECK.same("done, then " + call.getKey(), x.status(), 0);
        }
    }

    private static void questionsChangeNothing() {
        CHECK.sentence("STATUS", "call that is no question");
        unchanged(Gardens::life, questions());
    }

    /** Each of these calls leaves all as it was. */
    private static void unchanged(Supplier<GardenBoxes> recipe, Map<String, ToIntFunction<GardenBoxes>> calls) {
        String before = Portrait.of(recipe);
        calls.forEach((name, call) -> {
            String after = Portrait.of(Gardens.with(recipe, call::applyAsInt));
            CHECK.same(name + " changes nothing else", after.equals(before) ? 1 : 0, 1);
        });
    }

    /** Each of these calls is refused with this status, whatever it was before. */
    private static void refused(Supplier<GardenBoxes> recipe, int status,
        Map<String, ToIntFunction<GardenBoxes>> calls) {
        calls.forEach((name, call) -> {
            GardenBoxes x = recipe.get();
            CHECK.refused(x, name, call.applyAsInt(x), status);
            GardenBoxes y = recipe.get();
            y.forge(status == 13 ? 5 : 1, status == 13 ? 0 : -1, 0);
            CHECK.refused(y, name + ", once more refused", call.applyAsInt(y), status);
        });
    }

    private static Map<String, ToIntFunction<GardenBoxes>> numbersOutside() {
        int rest = Check.rest(1, 0, 1);
        Map<String, ToIntFunction<GardenBoxes>> calls = new LinkedHashMap<>();
        calls.put("crop: kind", x -> x.crop(6, 1, 1, rest));
        calls.put("crop: need", x -> x.crop(0, 0, 1, rest));
        calls.put("crop: yield", x -> x.crop(0, 1, 21, rest));
        calls.put("crop: rest", x -> x.crop(0, 1, 1, 0));
        calls.put("sow: bed", x -> x.sow(8, 0));
        calls.put("sow: crop", x -> x.sow(7, 6));
        calls.put("sow: bought", x -> x.sow(7, 5));
        calls.put("buy: not bought", x -> x.buy(3, 1));
        calls.put("buy: crop", x -> x.buy(6, 1));
        calls.put("buy: 0", x -> x.buy(5, 0));
        calls.put("buy: 51", x -> x.buy(5, 51));
        calls.put("hands: -1", x -> x.hands(-1));
        calls.put("hands: 201", x -> x.hands(201));
        calls.put("house: size", x -> x.house(7, 0));
        calls.put("house: dislikes", x -> x.house(1, 64));
        calls.put("away: house", x -> x.away(2, 1));
        calls.put("away: bits", x -> x.away(0, -1));
        calls.put("dislike: house", x -> x.dislike(2, 0, true));
        calls.put("dislike: crop", x -> x.dislike(0, 6, true));
        calls.put("feed: 0", x -> x.feed(0, 0));
        calls.put("feed: 9", x -> x.feed(9, 0));
        calls.put("warm: sheet", x -> x.warm(4, 0));
        calls.put("warm: week", x -> x.warm(2, 30));
        calls.put("sheet: sheet", x -> x.sheet(4, 0, 0));
        calls.put("sheet: sort", x -> x.sheet(0, 3, 0));
        calls.put("sheet: n", x -> x.sheet(0, 0, 41));
        calls.put("cell: sheet", x -> x.cell(4, 0, 0));
        calls.put("cell: v", x -> x.cell(0, 0, 1001));
        calls.put("none: sheet", x -> x.none(4, 0));
        calls.put("act: crop", x -> x.act(6, 0, 0));
        calls.put("act: act", x -> x.act(0, 4, 0));
        calls.put("forge: what", x -> x.forge(7, 0, 0));
        calls.put("forge: n", x -> x.forge(0, 101, 0));
        return calls;
    }

    private static Map<String, ToIntFunction<GardenBoxes>> withoutRoom() {
        return Map.of("crop", x -> x.crop(0, 1, 1, Check.rest(1, 0, 1)), "buy", x -> x.buy(0, 1),
            "house", x -> x.house(1, 0), "feed", x -> x.feed(1, 0), "back", GardenBoxes::back);
    }

    private static Map<String, ToIntFunction<GardenBoxes>> notSoAmidLife() {
        return Map.of("sow: it bears one", x -> x.sow(2, 0), "sow: it bore this", x -> x.sow(0, 0));
    }

    private static Map<String, ToIntFunction<GardenBoxes>> notSoAtTheEnd() {
        return Map.of("sow", x -> x.sow(1, 0), "buy", x -> x.buy(1, 1), "week", GardenBoxes::week);
    }

    private static Map<String, ToIntFunction<GardenBoxes>> onNothing() {
        return Map.of("warm", x -> x.warm(3, 0), "cell", x -> x.cell(3, 0, 0), "none", x -> x.none(3, 0),
            "forge 0", x -> x.forge(0, 0, 6), "forge 2", x -> x.forge(2, 0, 3), "forge 3", x -> x.forge(3, 0, 3),
            "forge 6", x -> x.forge(6, 0, 0));
    }

    private static Map<String, ToIntFunction<GardenBoxes>> onOtherSorts() {
        return Map.of("warm", x -> x.warm(0, 0), "none", x -> x.none(1, 0), "forge 0", x -> x.forge(0, 5, 0),
            "forge 2", x -> x.forge(2, 0, 0), "forge 3", x -> x.forge(3, 0, 1));
    }

    private static Map<String, ToIntFunction<GardenBoxes>> onPlacesOutside() {
        return Map.of("warm", x -> x.warm(2, 28), "cell", x -> x.cell(2, 3, 0), "none", x -> x.none(2, 3),
            "forge 2", x -> x.forge(2, 3, 1), "forge 3", x -> x.forge(3, 3, 0));
    }

    private static void statusOne() {
        CHECK.sentence("STATUS", "1 a number is none such or outside what is told");
        refused(Gardens::life, 1, numbersOutside());
    }

    private static void statusTwo() {
        CHECK.sentence("STATUS", "2 there is no room");
        refused(StatusEdgesTest::full, 2, withoutRoom());
    }

    private static void statusThree() {
        CHECK.sentence("STATUS", "3 it is not so (as told)");
        refused(Gardens::life, 3, notSoAmidLife());
        refused(StatusEdgesTest::ended, 3, notSoAtTheEnd());
        refused(StatusEdgesTest::full, 3, Map.of("warm", x -> x.warm(0, 0)));
        refused(GardenBoxes::new, 3, Map.of("back", GardenBoxes::back));
        refused(Gardens.with(GardenBoxes::new, x -> Check.feed(x, "bar")), 3, Map.of("lines", x -> x.lines()));
    }

    private static void statusTen() {
        CHECK.sentence("STATUS", "10 nothing where something is asked");
        refused(Gardens::life, 10, onNothing());
    }

    private static void statusEleven() {
        CHECK.sentence("STATUS", "11 a thing of another sort or KIND");
        refused(Gardens::life, 11, onOtherSorts());
    }

    private static void statusTwelve() {
        CHECK.sentence("STATUS", "12 a place outside");
        refused(Gardens::life, 12, onPlacesOutside());
    }

    private static void statusThirteen() {
        CHECK.sentence("STATUS", "13 a size below 0");
        refused(Gardens::life, 13, Map.of("forge 1", x -> x.forge(1, -1, 0)));
    }

    private static void statusFourteen() {
        CHECK.sentence("STATUS", "14 a thing that does not fit");
        refused(Gardens::life, 14, Map.of("forge 4", x -> x.forge(4, 0, 0)));
    }

    private static void statusFifteen() {
        CHECK.sentence("STATUS", "15 divided by 0");
        refused(Gardens::life, 15, Map.of("forge 5", x -> x.forge(5, 0, 0)));
    }

    private static void lowest() {
        CHECK.sentence("STATUS", "Where several hold, the lowest.");
        refused(StatusEdgesTest::full, 1, Map.of("crop: 1, 2", x -> x.crop(6, 1, 1, 0), "buy: 1, 2", x -> x.buy(0, 51),
            "house: 1, 2", x -> x.house(7, 0), "feed: 1, 2", x -> x.feed(9, 0)));
        refused(Gardens::life, 1, Map.of("sow: 1, 3", x -> x.sow(2, 5), "cell: 1, 10", x -> x.cell(3, 0, 1001),
            "cell: 1, 12", x -> x.cell(0, 3, 1001), "none: 1, 12", x -> x.none(4, -1),
            "forge 2: 1, 12", x -> x.forge(2, 101, 1), "forge 5: 1, 15", x -> x.forge(5, 0, 101)));
        refused(StatusEdgesTest::ended, 1, Map.of("sow: 1, 3", x -> x.sow(8, 0), "buy: 1, 3", x -> x.buy(1, 0)));
        refused(Gardens.with(StatusEdgesTest::full, x -> Check.weeks(x, 30)), 2, Map.of("buy: 2, 3", x -> x.buy(0, 1)));
        refused(Gardens::life, 10, Map.of("cell: 10, 12", x -> x.cell(3, -1, 0),
            "none: 10, 12", x -> x.none(3, -1), "forge 2: 10, 12", x -> x.forge(2, -1, 3),
            "forge 3: 10, 12", x -> x.forge(3, -1, 3)));
        refused(Gardens::life, 11, Map.of("none: 11, 12", x -> x.none(0, 3),
            "forge 2: 11, 12", x -> x.forge(2, 3, 0), "forge 3: 11, 12", x -> x.forge(3, 9, 1)));
    }

    private static void nothingElse() {
        CHECK.sentence("STATUS", "Such calls answer -1 and change nothing else.");
        unchanged(Gardens::life, numbersOutside());
        unchanged(StatusEdgesTest::full, withoutRoom());
        unchanged(StatusEdgesTest::full, Map.of("warm", x -> x.warm(0, 0)));
        unchanged(Gardens::life, notSoAmidLife());
        unchanged(StatusEdgesTest::ended, notSoAtTheEnd());
        unchanged(GardenBoxes::new, Map.of("back", GardenBoxes::back));
        unchanged(Gardens::life, onNothing());
        unchanged(Gardens::life, onOtherSorts());
        unchanged(Gardens::life, onPlacesOutside());
    }

    private static void forgeChangesNothing() {
        CHECK.sentence("P33", "What the host does, by what");
        int[][] done = {{0, 0, 3}, {1, 40, 0}, {2, 1, 1}, {3, 2, 0}, {4, 0, 5}, {4, 0, 7}, {5, 7, 0}, {6, 1, 0}};
        Map<String, ToIntFunction<GardenBoxes>> calls = new LinkedHashMap<>();
        for (int[] call : done) {
            GardenBoxes x = Gardens.life();
            x.forge(5, 0, 0);
            CHECK.same("an answer of forge " + call[0], x.forge(call[0], call[1], call[2]) >= 0 ? 1 : 0, 1);
            CHECK.same("status of forge " + call[0], x.status(), 0);
            calls.put("forge " + call[0] + " by " + call[2], y -> y.forge(call[0], call[1], call[2]));
        }
        unchanged(Gardens::life, calls);
    }
}
