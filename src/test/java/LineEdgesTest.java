import java.util.List;
import java.util.function.Supplier;

/** Boundary cases of the tape and the lines: part 4, promises 9 to 11 and 26. */
public final class LineEdgesTest {
    private static final Check CHECK = new Check("LineEdgesTest");
    private static final long BLANKS = 0x2020202020202020L;

    public static void main(String[] args) {
        lowestBytes();
        tapeFull();
        feedNumbers();
        tapeBehindTape();
        asLongAsCanBe();
        numbers();
        crops();
        signs();
        blanks();
        letters();
        noLines();
        twentyLines();
        lineForm();
        orForm();
        andForm();
        notForm();
        valueForm();
        whatCanStand();
        tooEarly();
        strangeBytes();
        strangeRows();
        numberTooLong();
        lineTooMany();
        notTooDeep();
        missingCrops();
        onlyWithoutTheFirst();
        changesNothing();
        tapeIsEmpty();
        linesReplaced();
        faultTold();
        faultAnother();
        lessAndEqual();
        valuesAtTheirEnds();
        withoutWhen();
        holdsNoSuch();
        firstGiveLine();
        greatestStock();
        hole();
        good();
        CHECK.finish();
    }

    private static void fine(String text, int lines) {
        GardenBoxes x = Gardens.threeAndAHouse();
        CHECK.done(x, "'" + text + "'", Check.tell(x, text), lines);
        CHECK.row("fault of '" + text + "'", x::fault, 0, -1);
        CHECK.same("lines of '" + text + "'", x.count(3), lines);
        CHECK.same("tape after '" + text + "'", x.count(6), 0);
    }

    private static void wrong(String text, int place) {
        wrong(text, 1, place);
    }

    private static void wrong(String text, int kind, int place) {
        GardenBoxes x = Gardens.threeAndAHouse();
        CHECK.refused(x, "'" + text + "'", Check.tell(x, text), 3);
        CHECK.row("fault of '" + text + "'", x::fault, kind, place);
        CHECK.same("lines of '" + text + "'", x.count(3), 0);
        CHECK.same("tape after '" + text + "'", x.count(6), 0);
    }

    private static void lowestBytes() {
        CHECK.sentence("P9", "The n lowest bytes of a number, the lowest first, come behind THE TAPE: how many it "
            + "has.");
        GardenBoxes x = Gardens.threeAndAHouse();
        CHECK.done(x, "1 of 8", x.feed(1, 0x7878787878787800L | 'b'), 1);
        CHECK.done(x, "2 of 8", x.feed(2, 0x7878787878780000L | 'a' | 'r' << 8), 3);
        CHECK.done(x, "4 of 8", x.feed(4, 0x7878787800000000L | ' ' | 'c' << 8 | '1' << 16 | ';' << 24), 7);
        CHECK.done(x, "8 of 8", x.feed(8, 0x3b30632065766967L), 15);
        CHECK.done(x, "two lines", x.lines(), 2);
        CHECK.done(x, "a byte of 255", x.feed(1, -1L), 1);
        CHECK.done(x, "eight of them", x.feed(8, -1L), 9);
        CHECK.refused(x, "none of which stands", x.lines(), 3);
        CHECK.row("fault", x::fault, 1, 0);
    }

    /** A tape of so many blanks. */
    private static GardenBoxes blank(int bytes) {
        GardenBoxes x = Gardens.threeAndAHouse();
        for (int i = 0; i < bytes / 8; i++) {
            x.feed(8, BLANKS);
        }
        if (bytes % 8 > 0) {
            x.feed(bytes % 8, BLANKS);
        }
        return x;
    }

    private static void tapeFull() {
        CHECK.sentence("4", "THE TAPE (200 bytes at most)");
        for (int n = 1; n <= 8; n++) {
            GardenBoxes x = blank(200 - n);
            CHECK.done(x, n + " up to 200", x.feed(n, BLANKS), 200);
            CHECK.refused(x, "one more", x.feed(1, BLANKS), 2);
            GardenBoxes y = blank(201 - n);
            CHECK.refused(y, n + " up to 201", y.feed(n, BLANKS), 2);
            CHECK.same("nothing came", y.count(6), 201 - n);
            CHECK.done(y, "blanks alone", y.lines(), 0);
        }
        fine("bar c0;".repeat(20) + " ".repeat(60), 20);
        fine(" ".repeat(193) + "bar c0;", 1);
        wrong(" ".repeat(194) + "bar c0", 200);
        wrong(" ".repeat(199) + ";", 199);
        wrong(";".repeat(200), 0);
        wrong("1 ".repeat(100), 0);
        wrong("bar c0 when " + "(".repeat(188), 18);
        fine("bar c0 when week<1" + "and week<1".repeat(18) + ";", 1);
    }

    private static void feedNumbers() {
        CHECK.sentence("P9", "STATUS 1 (n is not 1 .. 8), 2.");
        GardenBoxes x = Gardens.threeAndAHouse();
        CHECK.noneSuch(x, "n", n -> x.feed(n, BLANKS), 0, -1, 9, 10);
        CHECK.same("nothing came", x.count(6), 0);
        GardenBoxes full = blank(200);
        CHECK.refusedFor(full, "full", 2, n -> full.feed(n, BLANKS), 1, 8);
        CHECK.noneSuch(full, "full, and n", n -> full.feed(n, BLANKS), 0, 9);
        CHECK.same("the tape stays", full.count(6), 200);
    }

    private static void tapeBehindTape() {
        CHECK.sentence("P10", "What is on THE TAPE is THE LINES' text; THE TAPE is empty then: how many LINES "
            + "there are.");
        GardenBoxes x = Gardens.threeAndAHouse();
        Check.feed(x, "give c0;ba");
        Check.feed(x, "r c1;");
        CHECK.same("tape", x.count(6), 15);
        CHECK.done(x, "both", x.lines(), 2);
        CHECK.same("empty tape", x.count(6), 0);
        CHECK.done(x, "nothing", x.lines(), 0);
    }

    private static void asLongAsCanBe() {
        CHECK.sentence("4", "TOKENS, each as long as can be");
        fine("give c0 when week<12;", 1);
        wrong("give c0 when week<1 2;", 20);
        wrong("givec0;", 0);
        wrong("give c0 whenweek<1;", 8);
        wrong("give c0 when notweek<1;", 13);
        fine("give c0when not(week<1)and week<1or week<1;", 1);
    }

    private static void numbers() {
        CHECK.sentence("4", "NUMBERS (digits, 3 at most)");
        fine("give c0 when week<0;", 1);
        fine("give c0 when week<9;", 1);
        fine("give c0 when week<999;", 1);
        fine("give c0 when week<000;", 1);
        wrong("give c0 when week<0000;", 18);
        wrong("give c0 when week<1000;", 18);
        wrong("give c0 when week<;", 18);
        wrong("give c0 when week</;", 18);
        wrong("give c0 when week<:;", 18);
        wrong("give c0 when week<-1;", 18);
        GardenBoxes x = Gardens.threeAndAHouse();
        Check.tell(x, "give c0 when week=000;give c0 when week<001;give c0 when stock c0<100;");
        CHECK.row("line", line -> x.holds(line, 0), 1, 1, 1);
        x.buy(0, 50);
        x.buy(0, 50);
        CHECK.row("line then", line -> x.holds(line, 0), 1, 1, 0);
    }

    private static void crops() {
        CHECK.sentence("4", "CROPS (the letter c and one digit)");
        fine("give c0;", 1);
        fine("give c2;", 1);
        wrong("give c;", 5);
        wrong("give c 0;", 5);
        wrong("give c00;", 7);
        wrong("give c0 0;", 8);
        wrong("give 0;", 5);
        wrong("give d0;", 5);
        wrong("give C0;", 5);
        wrong("give cc0;", 5);
        wrong("give c", 5);
        wrong("give c/;", 5);
        wrong("give c:;", 5);
    }

    private static void signs() {
        CHECK.sentence("4", "SIGNS < = ( ) ;");
        fine("give c0 when(week<1);", 1);
        fine("give c0 when(week=1);", 1);
        wrong("give c0 when week>1;", 17);
        wrong("give c0 when[week<1);", 12);
        wrong("give c0 when week<1:", 19);
        wrong("give c0 when week<=1;", 18);
        wrong("give c0,", 7);
    }

    private static void blanks() {
        CHECK.sentence("4", "blanks (32) may stand between");
        fine(" give  c0   when    week  <  1   ;    ", 1);
        fine("give c0;  bar c1 ;", 2);
        wrong("gi ve c0;", 0);
        wrong("give c0 when week<1 0;", 20);
        int[] others = {0, 9, 10, 11, 12, 13, 31, 33, 160};
        for (int other : others) {
            wrong("give" + (char) other + "c0;", 4);
            wrong("give c0;" + (char) other, 8);
        }
    }

    private static void letters() {
        CHECK.sentence("4", "Letters, a .. z, stand in one row as many as there are: that is a KEY, or, being c alone "
            + "with a digit right behind it, the beginning of a CROP; else none.");
        wrong("gives c0;", 0);
        wrong("giv c0;", 0);
        wrong("zgive c0;", 0);
        wrong("agive c0;", 0);
        wrong("give`c0;", 4);
        wrong("give{c0;", 4);
        wrong("give@c0;", 4);
        wrong("GIVE c0;", 0);
        wrong("give c0x;", 7);
        wrong("give xc0;", 5);
        wrong("give c0 when week<1and1;", 22);
        fine("give c0when week<1;", 1);
    }

    private static void noLines() {
        CHECK.sentence("4", "LINES: none, or LINE { LINE }");
        fine("", 0);
        fine(" ", 0);
        fine("give c0;", 1);
        fine("give c0;bar c1;", 2);
        wrong(";", 0);
        wrong("give c0;;", 8);
        wrong("give c0 bar c1;", 8);
    }

    private static void twentyLines() {
        CHECK.sentence("4", "(20 at most)");
        fine("bar c0;".repeat(19), 19);
        fine("bar c0;".repeat(20), 20);
        wrong("bar c0;".repeat(21), 140);
        GardenBoxes x = Gardens.threeAndAHouse();
        Check.tell(x, "bar c0;".repeat(19) + "bar c0 when week=1;");
        CHECK.same("the first", x.holds(0, 0), 1);
        CHECK.same("the last but one", x.holds(18, 0), 1);
        CHECK.same("the last", x.holds(19, 0), 0);
        CHECK.same("no more", x.holds(20, 0), -1);
    }

    private static void lineForm() {
        CHECK.sentence("4", "LINE: give CROP, or bar CROP, then perhaps when OR, then ; .");
        fine("bar c0 when week<1;", 1);
        wrong("c0;", 0);
        wrong("when week<1;", 0);
        wrong("give;", 4);
        wrong("give give c0;", 5);
        wrong("car c0;", 0);
        wrong("give bar c0;", 5);
        wrong("give c0 c1;", 8);
        wrong("give c0 when;", 12);
        wrong("give c0 week<1;", 8);
        wrong("give c0; when week<1;", 9);
        wrong("give c0 when week<1 when week<1;", 20);
        wrong("give c0 and c1;", 8);
    }

    private static void orForm() {
        CHECK.sentence("4", "OR: AND { or AND }.");
        fine("give c0 when week<1 or week<2 or week<3;", 1);
        wrong("give c0 when or week<1;", 13);
        wrong("give c0 when week<1 or;", 22);
        wrong("give c0 when week<1 or or week<1;", 23);
        wrong("give c0 when week<1 or and week<1;", 23);
    }

    private static void andForm() {
        CHECK.sentence("4", "AND: NOT { and NOT }.");
        fine("give c0 when week<1 and week<2 and week<3;", 1);
        wrong("give c0 when and week<1;", 13);
        wrong("give c0 when week<1 and;", 23);
        wrong("give c0 when week<1 and and week<1;", 24);
        wrong("give c0 when week<1 and or week<1;", 24);
    }

    private static void notForm() {
        CHECK.sentence("4", "NOT: not NOT, ( OR ), or VALUE, then < or = , NUMBER.");
        fine("give c0 when not not week<1;", 1);
        fine("give c0 when (not (week<1 or week<2));", 1);
        fine("give c0 when not week<1 and not(size=3 or stock c2<4)or had c1=99;bar c2;", 2);
        wrong("give c0 when not;", 16);
        wrong("give c0 when week<1 not week<1;", 20);
        wrong("give c0 when ();", 14);
        wrong("give c0 when (week<1;", 20);
        wrong("give c0 when week<1);", 19);
        wrong("give c0 when (week<1));", 21);
        wrong("give c0 when week;", 17);
        wrong("give c0 when (size);", 18);
        wrong("give c0 when week<1 week<2;", 20);
        wrong("give c0 when (week<);", 19);
        wrong("give c0 when week 1;", 18);
        wrong("give c0 when week<week;", 18);
        wrong("give c0 when week<c0;", 18);
        wrong("give c0 when week==1;", 18);
        wrong("give c0 when 1<week;", 13);
    }

    private static void valueForm() {
        CHECK.sentence("4", "VALUE: stock CROP, had CROP, week, size.");
        fine("give c0 when stock c0<1 and had c0<1 and week<1 and size<1;", 1);
        wrong("give c0 when stock;", 18);
        wrong("give c0 when (had);", 17);
        wrong("give c0 when stock and week<1;", 19);
        wrong("give c0 when stock c0;", 21);
        wrong("give c0 when had c0 or week<1;", 20);
        wrong("give c0 when stock<1;", 18);
        wrong("give c0 when had<1;", 16);
        wrong("give c0 when stock 0<1;", 19);
        wrong("give c0 when week c0<1;", 18);
        wrong("give c0 when size c0<1;", 18);
        wrong("give c0 when c0<1;", 13);
        wrong("give c0 when give<1;", 13);
    }

    /** Behind a text, of all tokens (and of what is none) these alone can stand. */
    private static void onlyThese(String text, String... fitting) {
        String[] all = {"give", "bar", "when", "and", "or", "not", "stock", "had", "week", "size", "c0", "7", "<", "=",
            "(", ")", ";", "x", "?", "1234"};
        for (String token : all) {
            String longer = text + " " + token;
            GardenBoxes x = Gardens.threeAndAHouse();
            Check.tell(x, longer);
            if (!List.of(fitting).contains(token)) {
                CHECK.row("fault of '" + longer + "'", x::fault, 1, text.length() + 1);
            } else if (token.equals(";")) {
                CHECK.row("no fault of '" + longer + "'", x::fault, 0, -1);
            } else {
                CHECK.row("too early an end of '" + longer + "'", x::fault, 1, longer.length());
            }
        }
    }

    private static void whatCanStand() {
        CHECK.sentence("4", "1: the first byte of the first TOKEN that can't stand there");
        String[] not = {"not", "(", "stock", "had", "week", "size"};
        onlyThese("", "give", "bar");
        onlyThese("give c0;", "give", "bar");
        onlyThese("give", "c0");
        onlyThese("bar", "c0");
        onlyThese("give c0", "when", ";");
        onlyThese("bar c0", "when", ";");
        String[] before = {"", " not", " (", " week<1 and", " week<1 or", " not not not not not", " (((((", " (not("};
        for (String text : before) {
            onlyThese("bar c0 when" + text, not);
        }
        onlyThese("give c0 when stock", "c0");
        onlyThese("give c0 when had", "c0");
        String[] values = {" week", " size", " stock c0", " had c0"};
        for (String value : values) {
            onlyThese("give c0 when" + value, "<", "=");
            onlyThese("give c0 when" + value + " <", "7");
            onlyThese("give c0 when" + value + " =", "7");
            onlyThese("give c0 when" + value + "<1", "and", "or", ";");
            onlyThese("give c0 when (" + value + "=1", "and", "or", ")");
        }
        onlyThese("give c0 when (week<1)", "and", "or", ";");
        onlyThese("give c0 when not week<1", "and", "or", ";");
        onlyThese("give c0 when ((week<1)", "and", "or", ")");
        onlyThese("give c0 when not not not not not not");
        onlyThese("give c0 when ((((((");
    }

    private static void tooEarly() {
        CHECK.sentence("4", "1: the first byte of the first TOKEN that can't stand there (the text's length if it ends "
            + "too early");
        wrong("give", 4);
        wrong("give ", 5);
        wrong("give c0", 7);
        wrong("give c0   ", 10);
        wrong("give c0 when", 12);
        wrong("give c0 when not", 16);
        wrong("give c0 when (", 14);
        wrong("give c0 when stock", 18);
        wrong("give c0 when week", 17);
        wrong("give c0 when week<", 18);
        wrong("give c0 when week<1", 19);
        wrong("give c0 when (week<1", 20);
        wrong("give c0 when week<1 or", 22);
        wrong("give c0 when week<1 and ", 24);
        wrong("give c0;bar", 11);
    }

    private static void strangeBytes() {
        CHECK.sentence("4", "also a byte or row of letters that is none");
        int[] strange = {0, 1, 31, '!', '"', '#', '+', '-', '/', ':', '>', '?', '@', 'A', 'Z', '[', '`', '{', 127,
            128, 195, 255};
        for (int one : strange) {
            wrong((char) one + "give c0;", 0);
            wrong("give c0" + (char) one + ";", 7);
            wrong("give c0;" + (char) one, 8);
            wrong("give c0 when week<" + (char) one + ";", 18);
        }
    }

    private static void strangeRows() {
        CHECK.sentence("4", "row of letters that is none");
        String[] rows = {"a", "c", "z", "giv", "gives", "ba", "bars", "whe", "an", "ands", "o", "ors", "no", "nots",
            "stoc", "stocks", "ha", "hads", "wee", "weeks", "siz", "sizes", "hive", "gave", "bat", "then"};
        for (String row : rows) {
            wrong(row + " c0;", 0);
            wrong("give c0 " + row + ";", 8);
            wrong("give c0 when " + row + "<1;", 13);
            wrong("give c0 when week<" + row + ";", 18);
            wrong("give c0 when week " + row + " 1;", 18);
        }
    }

    private static void numberTooLong() {
        CHECK.sentence("4", "a NUMBER too long");
        wrong("give c0 when week=1234;", 18);
        wrong("give c0 when week=0001;", 18);
        wrong("give c0 when week= 12345678901234567890;", 19);
        wrong("give c0 when week=1" + "0".repeat(150) + ";", 18);
        wrong("1234", 0);
    }

    private static void lineTooMany() {
        CHECK.sentence("4", "the 21st LINE");
        String twenty = "bar c0;".repeat(20);
        fine(twenty + "   ", 20);
        wrong(twenty + "bar c0;", 140);
        wrong(twenty + "  give c1 when week<1;", 142);
        wrong(twenty + "bar", 140);
        wrong(twenty + "bar c9;", 140);
        wrong(twenty + "x", 140);
        wrong("bar c9;".repeat(20) + "bar c0;", 140);
    }

    private static void notTooDeep() {
        CHECK.sentence("4", "the first TOKEN of a NOT that lies in 6 others of these");
        fine("give c0 when not not not not not week<1;", 1);
        wrong("give c0 when not not not not not not week<1;", 37);
        wrong("give c0 when not not not not not not not week<1;", 37);
        fine("give c0 when (((((week<1)))));", 1);
        wrong("give c0 when ((((((week<1))))));", 19);
        fine("give c0 when not(not(not week<1 and week<2)or week<3);", 1);
        wrong("give c0 when not(not(not(not week<1)));", 25);
        wrong("give c0 when ((((((", 19);
        wrong("give c0 when ((((((;", 19);
        wrong("give c0 when ((((((())))));", 19);
        wrong("give c0 when (((((()))))) ;", 19);
        wrong("give c0 when not not not not not not;", 36);
        wrong("give c0 when not not not not not not or week<1;", 37);
        wrong("give c0 when (((((week<1 or (week<1", 29);
        wrong("give c0 when (((((week<1 and not week<1", 33);
        fine("give c0 when (((((week<1)))))and(((((week<1)))));", 1);
        fine("give c0 when (((((week<1 and week<2 or week<3)))))or not not not not not week<1;", 1);
    }

    private static void missingCrops() {
        CHECK.sentence("4", "2: the first byte of the first CROP that is not there.");
        wrong("give c3;", 2, 5);
        wrong("bar   c9;", 2, 6);
        wrong("give c0 when stock c3<1;", 2, 19);
        wrong("give c0 when had c8<1;bar c7;", 2, 17);
        wrong("give c2;bar c5 when stock c6<1;", 2, 12);
        GardenBoxes none = new GardenBoxes();
        CHECK.refused(none, "without crops", Check.tell(none, "give c0;"), 3);
        CHECK.row("fault without crops", none::fault, 2, 5);
        GardenBoxes eight = Gardens.threeAndAHouse();
        for (int i = 3; i < 8; i++) {
            eight.crop(0, 1, 1, Check.rest(1, 0, 1));
        }
        CHECK.done(eight, "the eighth", Check.tell(eight, "give c7;"), 1);
        CHECK.refused(eight, "a ninth", Check.tell(eight, "give c8;"), 3);
    }

    private static void onlyWithoutTheFirst() {
        CHECK.sentence("4", "If there is none, 2");
        wrong("give c9", 1, 7);
        wrong("give c9;x", 1, 8);
        wrong("give c9;give c0 when week<1000;", 1, 26);
        wrong("give c0 when stock c7<1 and;", 1, 27);
    }

    private static void changesNothing() {
        CHECK.sentence("4", "A text with a FAULT changes nothing but THE TAPE.");
        GardenBoxes x = Gardens.threeAndAHouse();
        x.buy(0, 9);
        x.buy(1, 8);
        Check.tell(x, "give c1;bar c0;");
        String[] faults = {"give c0", "give c7;", "bar c1;bar c0;bar c2;;", "bar c1 when week<1 or;"};
        for (String text : faults) {
            CHECK.refused(x, "'" + text + "'", Check.tell(x, text), 3);
            CHECK.same("the tape is empty", x.count(6), 0);
            CHECK.same("the lines stay", x.count(3), 2);
            CHECK.row("line", line -> x.holds(line, 0), 1, 1, -1);
        }
        x.week();
        CHECK.row("the box is by these", place -> x.box(0, place), 1, -1, -1);
        CHECK.row("why", place -> x.why(0, place), 0, -2, -2);
        Supplier<GardenBoxes> once = Gardens.with(Gardens::life, y -> Check.tell(y, "x"));
        String before = Portrait.of(once);
        String after = Portrait.of(Gardens.with(once, y -> Check.tell(y, "bar c1;gi")));
        CHECK.same("the same fault once more", before.equals(after) ? 1 : 0, 1);
    }

    private static void tapeIsEmpty() {
        CHECK.sentence("P10", "STATUS 3 (it has a FAULT: THE LINES stay as they were).");
        GardenBoxes x = Gardens.threeAndAHouse();
        CHECK.done(x, "a line", Check.tell(x, "give c1;"), 1);
        Check.feed(x, "give");
        CHECK.same("tape", x.count(6), 4);
        CHECK.refused(x, "a fault", x.lines(), 3);
        CHECK.same("the tape is empty", x.count(6), 0);
        CHECK.same("the line is there", x.count(3), 1);
        CHECK.done(x, "so this is all", Check.tell(x, "bar c0;bar c0;"), 2);
    }

    private static void linesReplaced() {
        CHECK.sentence("P10", "how many LINES there are");
        GardenBoxes x = Gardens.threeAndAHouse();
        CHECK.done(x, "twenty", Check.tell(x, "bar c0;".repeat(20)), 20);
        CHECK.done(x, "one", Check.tell(x, "give c1 when week=1;"), 1);
        CHECK.row("line", line -> x.holds(line, 0), 0, -1);
        CHECK.done(x, "none", x.lines(), 0);
        CHECK.same("no line", x.holds(0, 0), -1);
        CHECK.same("count", x.count(3), 0);
    }

    private static void faultTold() {
        CHECK.sentence("P11", "Of the latest lines(): 0 its FAULT's kind (0: none, or ahead of any), 1 the place "
            + "(-1).");
        GardenBoxes x = Gardens.threeAndAHouse();
        CHECK.row("ahead of any", x::fault, 0, -1);
        Check.tell(x, ";");
        CHECK.row("at 0", x::fault, 1, 0);
        Check.feed(x, "give c7;");
        CHECK.row("till the next", x::fault, 1, 0);
        x.lines();
        CHECK.row("of kind 2", x::fault, 2, 5);
        x.week();
        x.image();
        x.back();
        CHECK.row("whatever else is called", x::fault, 2, 5);
        x.lines();
        CHECK.row("none", x::fault, 0, -1);
    }

    private static void faultAnother() {
        CHECK.sentence("P11", "-1: another.");
        GardenBoxes x = Gardens.threeAndAHouse();
        CHECK.outside("ahead of any", -1, x::fault, -1, 2, 3);
        Check.tell(x, "give");
        CHECK.outside("with a fault", -1, x::fault, -1, 2, 3);
    }

    private static void lessAndEqual() {
        CHECK.sentence("4", "VALUE, then < or = , NUMBER");
        GardenBoxes x = Gardens.threeAndAHouse();
        x.buy(1, 5);
        Check.tell(x, "bar c0 when stock c1<4;bar c0 when stock c1<5;bar c0 when stock c1<6;"
            + "bar c0 when stock c1=4;bar c0 when stock c1=5;bar c0 when stock c1=6;");
        CHECK.row("line", line -> x.holds(line, 0), 0, 0, 1, 0, 1, 0);
    }

    private static void valuesAtTheirEnds() {
        CHECK.sentence("4", "A VALUE for a HOUSE: stock: how many are left in all LOTS of the CROP now; had: HAD; "
            + "week: THE WEEK; size: the HOUSE's SIZE.");
        GardenBoxes x = Gardens.threeAndAHouse();
        x.house(1, 0);
        x.house(6, 0);
        Check.tell(x, "bar c0 when stock c0=0;bar c0 when week=0;bar c0 when size=1;bar c0 when size=6;"
            + "bar c0 when had c0=99;bar c0 when week<0;");
        CHECK.row("at first, of house 1", line -> x.holds(line, 1), 1, 1, 1, 0, 1, 0, -1);
        CHECK.row("at first, of house 2", line -> x.holds(line, 2), 1, 1, 0, 1, 1, 0, -1);
        Check.weeks(x, 30);
        Check.tell(x, "bar c0 when week=30;bar c0 when week<30;bar c0 when week=29;");
        CHECK.row("in week 30", line -> x.holds(line, 0), 1, 0, 0, -1);
        GardenBoxes y = Gardens.threeAndAHouse();
        for (int i = 0; i < 20; i++) {
            y.buy(2, 50);
        }
        Check.tell(y, "bar c0 when stock c2<999;bar c0 when stock c2=999;bar c0 when not stock c2<999;");
        CHECK.row("a stock of 1000", line -> y.holds(line, 0), 0, 0, 1, -1);
    }

    private static void withoutWhen() {
        CHECK.sentence("4", "A LINE holds if what stands behind when does (without: always).");
        GardenBoxes x = Gardens.threeAndAHouse();
        Check.tell(x, "give c0;bar c0;give c0 when week=0;give c0 when week=1;bar c1;bar c1 when not week=0;");
        CHECK.row("week 0, line", line -> x.holds(line, 0), 1, 1, 1, 0, 1, 0);
        x.week();
        CHECK.row("week 1, line", line -> x.holds(line, 0), 1, 1, 0, 1, 1, 1);
    }

    private static void holdsNoSuch() {
        CHECK.sentence("P26", "Whether LINE i holds for a HOUSE now: 1, 0. -1: no such.");
        GardenBoxes x = Gardens.threeAndAHouse();
        CHECK.outside("without lines", -1, line -> x.holds(line, 0), -1, 0, 19);
        Check.tell(x, "give c0;give c0 when week=1;");
        CHECK.row("line", line -> x.holds(line, 0), 1, 0, -1);
        CHECK.outside("line", -1, line -> x.holds(line, 0), -1, 2, 19, 20);
        CHECK.outside("house", -1, house -> x.holds(0, house), -1, 1, 9, 10);
        CHECK.outside("both", -1, line -> x.holds(line, 1), -1, 2);
    }

    private static void firstGiveLine() {
        CHECK.sentence("4", "A PLACE gets: the CROP of the first give LINE that holds whose CROP is GOOD");
        GardenBoxes x = Gardens.threeAndAHouse();
        x.buy(0, 9);
        x.buy(1, 1);
        x.buy(2, 5);
        Check.tell(x, "give c1 when week=1;bar c2;give c2;give c2;give c1;");
        x.week();
        CHECK.row("box", place -> x.box(0, place), 2, 1, 0, -1);
        CHECK.row("why", place -> x.why(0, place), 2, 4, -1, -3);
        x.week();
        CHECK.row("none of 1 is left", place -> x.box(0, place), 2, 0, -1, -1);
        CHECK.row("why then", place -> x.why(0, place), 2, -1, -2, -3);
        x.dislike(0, 2, true);
        x.week();
        CHECK.row("2 is disliked", place -> x.box(0, place), 0, -1, -1, -1);
    }

    private static void greatestStock() {
        CHECK.sentence("4", "else, of all CROPS that are GOOD and that no bar LINE that holds names, the one with the "
            + "greatest stock, of these the least number");
        GardenBoxes x = Gardens.threeAndAHouse();
        x.buy(0, 4);
        x.buy(1, 5);
        x.buy(2, 2);
        x.buy(2, 3);
        x.week();
        CHECK.row("5 and 5 ahead of 4", place -> x.box(0, place), 1, 2, 0);
        x.week();
        CHECK.row("4 and 4 ahead of 3", place -> x.box(0, place), 1, 2, 0);
        Check.tell(x, "bar c1 when week=2;bar c2 when week=3;");
        x.week();
        CHECK.row("1 is barred in week 2", place -> x.box(0, place), 2, 0, -1);
        x.week();
        CHECK.row("2 is barred in week 3", place -> x.box(0, place), 1, 0, -1);
    }

    private static void hole() {
        CHECK.sentence("4", "else nothing: it is a HOLE");
        GardenBoxes x = Gardens.threeAndAHouse();
        CHECK.same("nothing is there", x.week(), 3);
        x.buy(0, 9);
        CHECK.same("one for a box", x.week(), 2);
        x.dislike(0, 0, true);
        CHECK.same("disliked", x.week(), 3);
        x.dislike(0, 0, false);
        Check.tell(x, "bar c0;");
        CHECK.same("barred", x.week(), 3);
        CHECK.row("why", place -> x.why(0, place), -2, -2, -2, -3);
        CHECK.same("in all", x.houseTold(0, 4), 11);
    }

    private static void good() {
        CHECK.sentence("4", "A CROP is GOOD for it if its stock is above 0, the HOUSE does not dislike it, and no "
            + "PLACE of this BOX has it yet.");
        GardenBoxes x = Gardens.threeAndAHouse();
        x.house(1, 0);
        x.buy(0, 1);
        Check.tell(x, "give c0;give c1;");
        x.buy(1, 2);
        x.week();
        CHECK.row("the last of 0, then 1", place -> x.box(0, place), 0, 1, -1);
        CHECK.row("no 0 is left for the other", place -> x.box(1, place), 1, -1);
        CHECK.row("stock", crop -> x.told(crop, 6), 0, 0, 0);
        CHECK.same("nothing is good", x.week(), 4);
        x.buy(2, 50);
        CHECK.same("each box has it once", x.week(), 2);
        x.dislike(1, 2, true);
        CHECK.same("the other dislikes it", x.week(), 3);
        CHECK.row("box", house -> x.box(house, 0), 2, -1);
    }
}
