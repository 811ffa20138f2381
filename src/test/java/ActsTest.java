/** Every act of every kind and its trace (5), promises 28 and 29. */
public final class ActsTest {
    private static final Check CHECK = new Check("ActsTest");

    public static void main(String[] args) {
        bodies();
        CHECK.finish();
    }

    /** Crop i is of kind i, with yield 3 + i and keep 2 + i. */
    private static GardenBoxes kinds() {
        GardenBoxes x = new GardenBoxes();
        for (int kind = 0; kind < 6; kind++) {
            x.crop(kind, 10, 3 + kind, Check.rest(1, 2 + kind, 1));
        }
        return x;
    }

    private static void due(GardenBoxes x, int crop, int act, int answer, int... trace) {
        String name = "crop " + crop + " act " + act;
        CHECK.done(x, "P28 " + name, x.act(crop, act, 10), answer);
        CHECK.same("P27 bodies of " + name, x.count(7), trace.length);
        for (int i = 0; i < trace.length; i++) {
            CHECK.same("P29 " + name + " body " + i, x.trace(i), trace[i]);
        }
        CHECK.same("P29 " + name + " beyond", x.trace(trace.length), -1);
        CHECK.same("P29 " + name + " ahead of all", x.trace(-1), -1);
    }

    private static void bodies() {
        GardenBoxes x = kinds();
        due(x, 0, 0, 13, 10);
        due(x, 0, 1, 26, 11, 10);
        due(x, 0, 2, 8, 12);
        due(x, 0, 3, 26 ^ 8, 13, 11, 10, 12);
        due(x, 1, 0, 15, 20, 10);
        due(x, 1, 1, 30, 11, 20, 10);
        due(x, 1, 2, 7, 12);
        due(x, 1, 3, 32 ^ 8, 21, 13, 11, 20, 10, 12);
        due(x, 2, 0, 15, 10);
        due(x, 2, 1, 15, 30, 11, 10, 10);
        due(x, 2, 2, 6, 12);
        due(x, 2, 3, 15 ^ 6, 13, 30, 11, 10, 10, 12);
        due(x, 3, 0, 19, 20, 10);
        due(x, 3, 1, 48, 41, 11, 20, 10);
        due(x, 3, 2, 15, 40, 12);
        due(x, 3, 3, 50 ^ 18, 21, 13, 41, 11, 20, 10, 40, 12);
        due(x, 4, 0, 17, 10);
        due(x, 4, 1, 34, 11, 10);
        due(x, 4, 2, 4, 12);
        due(x, 4, 3, 4 - (34 ^ 4), 50, 12, 13, 11, 10, 12);
        due(x, 5, 0, 23 ^ 5, 60, 20, 10);
        due(x, 5, 1, (30 ^ 5) * 2, 41, 11, 60, 20, 10);
        due(x, 5, 2, 6, 61, 40, 12);
        due(x, 5, 3, (31 ^ 5) * 2 ^ 9, 21, 13, 41, 11, 60, 20, 10, 61, 40, 12);
    }
}
