/** What lines mean and how they fill places (4), promises 10 and 26. */
public final class LinesTest {
    private static final Check CHECK = new Check("LinesTest");

    public static void main(String[] args) {
        values();
        logic();
        giveLines();
        barLines();
        valuesWithinABox();
        manyTexts();
        CHECK.finish();
    }

    private static void values() {
        GardenBoxes x = Gardens.threeAndAHouse();
        x.house(5, 0);
        x.buy(1, 4);
        x.buy(1, 3);
        String text = "give c0 when stock c1=7;give c0 when stock c0=0;give c0 when size<5;"
            + "give c0 when week=0;give c0 when had c1=99;give c0 when stock c1<7;give c0;";
        CHECK.same("P10 told", Check.tell(x, text), 7);
        int[] three = {1, 1, 1, 1, 1, 0, 1};
        int[] five = {1, 1, 0, 1, 1, 0, 1};
        for (int i = 0; i < 7; i++) {
            CHECK.same("P26 line " + i + " house 0", x.holds(i, 0), three[i]);
            CHECK.same("P26 line " + i + " house 1", x.holds(i, 1), five[i]);
        }
        x.week();
        CHECK.same("P26 week 1 now", x.holds(3, 0), 0);
        CHECK.same("P26 had now", x.holds(4, 0), 0);
        CHECK.same("P26 stock now", x.holds(5, 0), 1);
        Check.tell(x, "bar c0 when had c1=1;bar c0 when week=1;bar c0 when stock c1=5;");
        for (int i = 0; i < 3; i++) {
            CHECK.same("P26 a bar line " + i, x.holds(i, 1), 1);
        }
    }

    /** Each with what it is, where t is a test that is true and f one that is false. */
    private static void logic() {
        String[] texts = {"t", "f", "not t", "not f", "not not t", "t and f", "t or f", "f or f", "t and t",
            "t or t and f", "(t or t) and f", "f and f or t", "f and (f or t)", "not f and f", "not (f and f)",
            "not t or t", "not (t or t)", "t and not f", "f or not f", "t and t and t and f", "f or f or f or t",
            "f or t and t or f", "(t and (f or (t and not (f))))", "t and (f or f) or not (t and f)",
            "not (not (t and f) and t) or f", "f or (t and (f or (t and (f or t))))"};
        boolean[] due = {true, false, false, true, true, false, true, false, true,
            true, false, true, false, false, true,
            true, false, true, true, false, true,
            true, true, true,
            false, true};
        for (int i = 0; i < texts.length; i++) {
            logic(texts[i], "week=0", "week=1", due[i]);
            logic(texts[i], "week<1", "week<0", due[i]);
            logic(texts[i], "size<4", "size=4", due[i]);
        }
    }

    private static void logic(String test, String isTrue, String isFalse, boolean due) {
        GardenBoxes x = Gardens.threeAndAHouse();
        String text = "bar c0 when " + test.replaceAll("\\bt\\b", isTrue).replaceAll("\\bf\\b", isFalse) + ";";
        CHECK.same("P10 " + text, Check.tell(x, text), 1);
        CHECK.same("P26 " + text, x.holds(0, 0), due ? 1 : 0);
    }

    private static void giveLines() {
        GardenBoxes x = Gardens.threeAndAHouse();
        x.buy(0, 9);
        x.buy(1, 8);
        x.buy(2, 7);
        Check.tell(x, "bar c0;give c2 when week<1;give c2;give c0 when week=1;");
        CHECK.same("P13 a hole", x.week(), 1);
        int[] crops = {2, 1, -1};
        int[] whys = {1, -1, -2};
        for (int place = 0; place < 3; place++) {
            CHECK.same("4 crop " + place, x.box(0, place), crops[place]);
            CHECK.same("4 why " + place, x.why(0, place), whys[place]);
        }
        x.dislike(0, 2, true);
        CHECK.same("P13 a hole again", x.week(), 1);
        CHECK.same("4 a bar line does not stop a give line", x.box(0, 0), 0);
        CHECK.same("4 the third give line", x.why(0, 0), 3);
        CHECK.same("4 then by stock", x.box(0, 1), 1);
        CHECK.same("4 a dislike is no good", x.box(0, 2), -1);
        Check.tell(x, "");
        CHECK.same("P22 the line it was", x.why(0, 0), 3);
    }

    private static void barLines() {
        GardenBoxes x = Gardens.threeAndAHouse();
        x.buy(0, 9);
        x.buy(1, 8);
        x.buy(2, 7);
        Check.tell(x, "bar c0 when size=3;bar c1 when size=2;");
        x.house(2, 0);
        x.week();
        CHECK.same("4 barred for this house", x.box(0, 0), 1);
        CHECK.same("4 the next by stock", x.box(0, 1), 2);
        CHECK.same("4 a hole", x.box(0, 2), -1);
        CHECK.same("4 not barred for that house", x.box(1, 0), 0);
        CHECK.same("4 barred for that house", x.box(1, 1), 2);
    }

    private static void manyTexts() {
        GardenBoxes x = Gardens.threeAndAHouse();
        for (int i = 0; i < 12; i++) {
            String text = "bar c1;give c0 when week<1 and size=3 and not week=1 and not size<3 and had c0=" + i
                + " or stock c0=" + i + ";give c0 when had c0=99 and stock c0=0 and (week=0 or week=1);";
            CHECK.same("P10 text " + i, Check.tell(x, text), 3);
            CHECK.same("P26 text " + i + " line 0", x.holds(0, 0), 1);
            CHECK.same("P26 text " + i + " line 1", x.holds(1, 0), i == 0 ? 1 : 0);
            CHECK.same("P26 text " + i + " line 2", x.holds(2, 0), 1);
        }
    }

    private static void valuesWithinABox() {
        GardenBoxes x = Gardens.threeAndAHouse();
        x.buy(0, 2);
        x.buy(1, 9);
        x.buy(2, 1);
        Check.tell(x, "give c1 when stock c0=1;give c2 when had c1=0;give c0;");
        CHECK.same("P13 no hole", x.week(), 0);
        int[] crops = {0, 1, 2};
        int[] whys = {2, 0, 1};
        for (int place = 0; place < 3; place++) {
            CHECK.same("4 crop " + place, x.box(0, place), crops[place]);
            CHECK.same("4 why " + place, x.why(0, place), whys[place]);
        }
    }
}
