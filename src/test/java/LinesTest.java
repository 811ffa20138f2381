/** Promises 9 to 11 and 26, and how lines fill places (4). */
public final class LinesTest {
    private static final Check CHECK = new Check("LinesTest");

    public static void main(String[] args) {
        feeding();
        tokens();
        grammar();
        depth();
        twentyLines();
        missingCrops();
        faultsChangeNothing();
        values();
        logic();
        giveLines();
        barLines();
        valuesWithinABox();
        manyTexts();
        CHECK.finish();
    }

    private static GardenBoxes garden() {
        GardenBoxes x = new GardenBoxes();
        for (int i = 0; i < 3; i++) {
            x.crop(5, 1, 1, Check.rest(1, 12, 1));
        }
        x.house(3, 0);
        return x;
    }

    private static void fine(String text, int lines) {
        GardenBoxes x = garden();
        CHECK.done(x, "P10 '" + text + "'", Check.tell(x, text), lines);
        CHECK.same("P11 kind '" + text + "'", x.fault(0), 0);
        CHECK.same("P11 place '" + text + "'", x.fault(1), -1);
        CHECK.same("P27 lines '" + text + "'", x.count(3), lines);
        CHECK.same("P27 tape '" + text + "'", x.count(6), 0);
    }

    private static void wrong(String text, int kind, int place) {
        GardenBoxes x = garden();
        CHECK.refused(x, "P10 '" + text + "'", Check.tell(x, text), 3);
        CHECK.same("P11 kind '" + text + "'", x.fault(0), kind);
        CHECK.same("P11 place '" + text + "'", x.fault(1), place);
        CHECK.same("P27 tape '" + text + "'", x.count(6), 0);
    }

    private static void feeding() {
        GardenBoxes x = garden();
        CHECK.refused(x, "P9 0", x.feed(0, 0), 1);
        CHECK.refused(x, "P9 9", x.feed(9, 0), 1);
        CHECK.refused(x, "P9 -1", x.feed(-1, 0), 1);
        CHECK.done(x, "P9 1", x.feed(1, 'b' | 'x' << 8), 1);
        CHECK.done(x, "P9 2", x.feed(2, 'a' | 'r' << 8), 3);
        CHECK.done(x, "P9 4", x.feed(4, ' ' | 'c' << 8 | '1' << 16 | ';' << 24), 7);
        CHECK.done(x, "P10 bar c1;", x.lines(), 1);
        for (int i = 1; i <= 24; i++) {
            CHECK.done(x, "P9 blanks", x.feed(8, 0x2020202020202020L), 8 * i);
        }
        CHECK.done(x, "P9 up to 199", x.feed(7, 0x20202020202020L), 199);
        CHECK.refused(x, "P9 beyond 200", x.feed(2, 0x2020), 2);
        CHECK.refused(x, "P9 beyond 200, wrong too", x.feed(9, 0), 1);
        CHECK.same("P27 tape", x.count(6), 199);
        CHECK.done(x, "P9 up to 200", x.feed(1, ' '), 200);
        CHECK.refused(x, "P9 it is full", x.feed(1, ' '), 2);
        CHECK.done(x, "P10 blanks alone", x.lines(), 0);
        CHECK.same("P27 the tape is empty", x.count(6), 0);
        CHECK.same("P11 another", x.fault(2), -1);
        CHECK.same("P11 another", x.fault(-1), -1);
    }

    private static void tokens() {
        fine("", 0);
        fine("   ", 0);
        fine("give c0;", 1);
        fine("  give   c0  ;  ", 1);
        fine("give c0;bar c1;", 2);
        fine("give c0when week<1and size=2;", 1);
        fine("give c0 when week<999;", 1);
        fine("give c0 when week=000or not(size<1);", 1);
        wrong("give c0 when week<1000;", 1, 18);
        wrong("give c0 when week<0000;", 1, 18);
        wrong("Give c0;", 1, 0);
        wrong("give C0;", 1, 5);
        wrong("give\tc0;", 1, 4);
        wrong("give c0\n;", 1, 7);
        wrong("give\u00ff c0;", 1, 4);
        wrong("give c0;\0", 1, 8);
        wrong("give c 0;", 1, 5);
        wrong("give c;", 1, 5);
        wrong("give cc0;", 1, 5);
        wrong("give d0;", 1, 5);
        wrong("give c00;", 1, 7);
        wrong("give c0x;", 1, 7);
        wrong("give c0 whenweek<1;", 1, 8);
        wrong("giv c0;", 1, 0);
        wrong("live c0;", 1, 0);
        wrong("car c0;", 1, 0);
        wrong("give c0 when had c0<1 end week<1;", 1, 22);
        wrong("gives c0;", 1, 0);
        wrong("give c0 when week<1x;", 1, 19);
        wrong("give c0 when week<-1;", 1, 18);
        wrong("give c0 when week>1;", 1, 17);
    }

    private static void grammar() {
        wrong("give", 1, 4);
        wrong("give  ", 1, 6);
        wrong("give c0", 1, 7);
        wrong("give c0 ", 1, 8);
        wrong("give ;", 1, 5);
        wrong("give give c0;", 1, 5);
        wrong("give 0;", 1, 5);
        wrong(";", 1, 0);
        wrong("c0;", 1, 0);
        wrong("give c0;;", 1, 8);
        wrong("give c0; when week<1;", 1, 9);
        wrong("give c0 when;", 1, 12);
        wrong("give c0 when week;", 1, 17);
        wrong("give c0 when week<;", 1, 18);
        wrong("give c0 when week<c0;", 1, 18);
        wrong("give c0 when week<1", 1, 19);
        wrong("give c0 when week c0<1;", 1, 18);
        wrong("give c0 when size==1;", 1, 18);
        wrong("give c0 when stock<1;", 1, 18);
        wrong("give c0 when stock;", 1, 18);
        wrong("give c0 when had c0;", 1, 19);
        wrong("give c0 when had 0<1;", 1, 17);
        wrong("give c0 when c0<1;", 1, 13);
        wrong("give c0 when 1<2;", 1, 13);
        wrong("give c0 when week<1 week<2;", 1, 20);
        wrong("give c0 when week<1 and;", 1, 23);
        wrong("give c0 when week<1 and or week<1;", 1, 24);
        wrong("give c0 when or week<1;", 1, 13);
        wrong("give c0 when week<1 not week<1;", 1, 20);
        wrong("give c0 when ();", 1, 14);
        wrong("give c0 when (week<1;", 1, 20);
        wrong("give c0 when week<1);", 1, 19);
        wrong("give c0 when (week<1", 1, 20);
        wrong("give c0 when (week<1))", 1, 21);
        fine("give c0 when not week<1 and not(size=3 or stock c2<4)or had c1=99;bar c2;", 2);
    }

    private static void depth() {
        fine("give c0 when not not not not not week<1;", 1);
        wrong("give c0 when not not not not not not week<1;", 1, 37);
        fine("give c0 when (((((week<1)))));", 1);
        wrong("give c0 when ((((((week<1))))));", 1, 19);
        fine("give c0 when not(not(not week<1 and week<2)or week<3);", 1);
        wrong("give c0 when not(not(not(not week<1)));", 1, 25);
        wrong("give c0 when ((((((", 1, 19);
        wrong("give c0 when ((((((;", 1, 19);
        wrong("give c0 when (((((())))));", 1, 19);
        wrong("give c0 when (((((((", 1, 19);
        wrong("give c0 when (((((week<1 or ((((((", 1, 29);
        fine("give c0 when (((((week<1)))))and(((((week<1)))));", 1);
    }

    private static void twentyLines() {
        String twenty = "bar c0;".repeat(20);
        fine(twenty, 20);
        fine(twenty + "  ", 20);
        wrong(twenty + "bar c0;", 1, 140);
        wrong(twenty + " bar", 1, 141);
        wrong(twenty + "x", 1, 140);
        wrong("bar c9;".repeat(20) + "bar c0;", 1, 140);
    }

    private static void missingCrops() {
        fine("give c2;", 1);
        wrong("give c3;", 2, 5);
        wrong("give c9;", 2, 5);
        wrong("give c0 when stock c3<1;", 2, 19);
        wrong("give c0 when had c8<1;bar c7;", 2, 17);
        wrong("give c0;bar c5 when stock c6<1;", 2, 12);
        wrong("give c9", 1, 7);
        wrong("give c9;give c0 when week<1000;", 1, 26);
    }

    private static void faultsChangeNothing() {
        GardenBoxes x = garden();
        Check.tell(x, "give c1;bar c0;");
        CHECK.refused(x, "P10 a fault", Check.tell(x, "give c1"), 3);
        CHECK.same("P10 the lines stay", x.count(3), 2);
        CHECK.same("P26 the lines stay", x.holds(1, 0), 1);
        CHECK.refused(x, "P10 a missing crop", Check.tell(x, "give c7;"), 3);
        CHECK.same("P10 the lines stay again", x.count(3), 2);
        CHECK.same("P11 kind", x.fault(0), 2);
        x.buy(0, 1);
        x.lot(0, 0);
        CHECK.same("P11 of the latest lines()", x.fault(0), 2);
        CHECK.done(x, "P10 an empty tape", x.lines(), 0);
        CHECK.same("P10 no lines", x.count(3), 0);
        CHECK.same("P11 no fault", x.fault(0), 0);
    }

    private static void values() {
        GardenBoxes x = garden();
        x.house(5, 0);
        x.buy(1, 4);
        x.buy(1, 3);
        String text = "give c0 when stock c1=7;give c0 when stock c0=0;give c0 when size<5;"
            + "give c0 when week=0;give c0 when had c1=99;give c0 when stock c1<7;give c0;";
        CHECK.same("P10 told", Check.tell(x, text), 7);
        int[] three = {1, 1, 1, 1, 1, 0, 1};
        int[] five = {1, 1, 0, 1, 1, 0, 1};
        for (int i = 0; i < 7; i++) {
            CHECK.same("P26 line " + i + " house 0", x.holds(i, 0), three[i]);
            CHECK.same("P26 line " + i + " house 1", x.holds(i, 1), five[i]);
        }
        CHECK.same("P26 line 7", x.holds(7, 0), -1);
        CHECK.same("P26 line -1", x.holds(-1, 0), -1);
        CHECK.same("P26 house 2", x.holds(0, 2), -1);
        CHECK.same("P26 house -1", x.holds(0, -1), -1);
        x.week();
        CHECK.same("P26 week 1 now", x.holds(3, 0), 0);
        CHECK.same("P26 had now", x.holds(4, 0), 0);
        CHECK.same("P26 stock now", x.holds(5, 0), 1);
        Check.tell(x, "bar c0 when had c1=1;bar c0 when week=1;bar c0 when stock c1=5;");
        for (int i = 0; i < 3; i++) {
            CHECK.same("P26 a bar line " + i, x.holds(i, 1), 1);
        }
    }

    /** Each with what it is, where t is true (week=0) and f is false (week=1). */
    private static void logic() {
        String[] texts = {"t", "f", "not t", "not f", "not not t", "t and f", "t or f", "f or f", "t and t",
            "t or t and f", "(t or t) and f", "f and f or t", "f and (f or t)", "not f and f", "not (f and f)",
            "not t or t", "not (t or t)", "t and not f", "f or not f", "t and t and t and f", "f or f or f or t",
            "f or t and t or f", "(t and (f or (t and not (f))))", "t and (f or f) or not (t and f)",
            "not (not (t and f) and t) or f", "f or (t and (f or (t and (f or t))))"};
        boolean[] due = {true, false, false, true, true, false, true, false, true,
            true, false, true, false, false, true,
            true, false, true, true, false, true,
            true, true, true,
            false, true};
        GardenBoxes x = garden();
        for (int i = 0; i < texts.length; i++) {
            String test = " " + texts[i].replace("(", " ( ").replace(")", " ) ") + " ";
            String text = test.replace(" t ", " week=0 ").replace(" f ", " week=1 ").replace(" t ", " week=0 ");
            CHECK.same("P10 " + texts[i], Check.tell(x, "bar c0 when" + text.replace("  ", " ") + ";"), 1);
            CHECK.same("P26 " + texts[i], x.holds(0, 0), due[i] ? 1 : 0);
        }
    }

    private static void giveLines() {
        GardenBoxes x = garden();
        x.buy(0, 9);
        x.buy(1, 8);
        x.buy(2, 7);
        Check.tell(x, "bar c0;give c2 when week<1;give c2;give c0 when week=1;");
        CHECK.same("P13 a hole", x.week(), 1);
        int[] crops = {2, 1, -1};
        int[] whys = {1, -1, -2};
        for (int place = 0; place < 3; place++) {
            CHECK.same("4 crop " + place, x.box(0, place), crops[place]);
            CHECK.same("4 why " + place, x.why(0, place), whys[place]);
        }
        x.dislike(0, 2, true);
        CHECK.same("P13 a hole again", x.week(), 1);
        CHECK.same("4 a bar line does not stop a give line", x.box(0, 0), 0);
        CHECK.same("4 the third give line", x.why(0, 0), 3);
        CHECK.same("4 then by stock", x.box(0, 1), 1);
        CHECK.same("4 a dislike is no good", x.box(0, 2), -1);
        Check.tell(x, "");
        CHECK.same("P22 the line it was", x.why(0, 0), 3);
    }

    private static void barLines() {
        GardenBoxes x = garden();
        x.buy(0, 9);
        x.buy(1, 8);
        x.buy(2, 7);
        Check.tell(x, "bar c0 when size=3;bar c1 when size=2;");
        x.house(2, 0);
        x.week();
        CHECK.same("4 barred for this house", x.box(0, 0), 1);
        CHECK.same("4 the next by stock", x.box(0, 1), 2);
        CHECK.same("4 a hole", x.box(0, 2), -1);
        CHECK.same("4 not barred for that house", x.box(1, 0), 0);
        CHECK.same("4 barred for that house", x.box(1, 1), 2);
    }

    private static void manyTexts() {
        GardenBoxes x = garden();
        for (int i = 0; i < 12; i++) {
            String text = "bar c1;give c0 when week<1 and size=3 and not week=1 and not size<3 and had c0=" + i
                + " or stock c0=" + i + ";give c0 when had c0=99 and stock c0=0 and (week=0 or week=1);";
            CHECK.same("P10 text " + i, Check.tell(x, text), 3);
            CHECK.same("P26 text " + i + " line 0", x.holds(0, 0), 1);
            CHECK.same("P26 text " + i + " line 1", x.holds(1, 0), i == 0 ? 1 : 0);
            CHECK.same("P26 text " + i + " line 2", x.holds(2, 0), 1);
        }
    }

    private static void valuesWithinABox() {
        GardenBoxes x = garden();
        x.buy(0, 2);
        x.buy(1, 9);
        x.buy(2, 1);
        Check.tell(x, "give c1 when stock c0=1;give c2 when had c1=0;give c0;");
        CHECK.same("P13 no hole", x.week(), 0);
        int[] crops = {0, 1, 2};
        int[] whys = {2, 0, 1};
        for (int place = 0; place < 3; place++) {
            CHECK.same("4 crop " + place, x.box(0, place), crops[place]);
            CHECK.same("4 why " + place, x.why(0, place), whys[place]);
        }
    }
}
