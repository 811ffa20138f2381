import java.lang.reflect.Method;
import java.util.HashMap;
import java.util.Map;
import java.util.Random;

/** Runs by chance (the same each time) of at most 512 calls, each answer beside the second telling's. */
public final class ChanceTest {
    private static final int RUNS = 400;
    private static final int CALLS = 512;
    private static final Check CHECK = new Check("ChanceTest");
    private static final String[] CHANGES = {
        "week", "week", "week", "week", "sow", "sow", "sow", "sow", "buy", "buy", "hands", "away", "dislike",
        "text", "text", "feed", "lines", "sheet", "cell", "cell", "none", "warm", "season", "image", "back",
        "act", "forge", "forge", "crop", "house",
    };
    private static final String[] QUESTIONS = {
        "fault", "ahead", "ahead", "told", "bed", "ripens", "lot", "box", "why", "lead", "houseTold", "fair", "holds",
        "count", "trace", "status",
    };
    private static final int[] FAR = {Integer.MIN_VALUE, Integer.MIN_VALUE + 1, -65536, -256, -100, 31, 32, 33, 64, 100,
        255, 256, 65536, Integer.MAX_VALUE - 1, Integer.MAX_VALUE};
    private static final Map<String, Method> METHODS = new HashMap<>();

    private final Random chance;
    private final GardenBoxes x = new GardenBoxes();
    private final SecondTelling y = new SecondTelling();
    private final int run;
    private int calls = 0;

    private ChanceTest(int run) {
        this.run = run;
        chance = new Random(7919L * run + 1);
    }

    public static void main(String[] args) throws ReflectiveOperationException {
        for (Method method : GardenBoxes.class.getMethods()) {
            METHODS.put(method.getName(), method);
        }
        for (int run = 0; run < RUNS; run++) {
            new ChanceTest(run).go();
        }
        CHECK.finish();
    }

    private void go() throws ReflectiveOperationException {
        int crops = chance.nextInt(8);
        for (int i = 0; i <= crops; i++) {
            cropCall(i % 6);
        }
        int houses = chance.nextInt(8);
        for (int i = 0; i <= houses; i++) {
            houseCall();
        }
        season();
        for (int bed = 0; bed < 8; bed++) {
            both("sow", bed, chance.nextInt(crops + 1));
        }
        while (calls < CALLS) {
            if (chance.nextInt(3) == 0) {
                change(CHANGES[chance.nextInt(CHANGES.length)]);
                both("status");
            } else {
                question(QUESTIONS[chance.nextInt(QUESTIONS.length)]);
            }
        }
    }

    private void both(String name, long... numbers) throws ReflectiveOperationException {
        if (calls >= CALLS) {
            return;
        }
        calls++;
        Method method = METHODS.get(name);
        Class<?>[] types = method.getParameterTypes();
        Object[] given = new Object[types.length];
        StringBuilder told = new StringBuilder("run " + run + " call " + calls + ": " + name);
        for (int i = 0; i < types.length; i++) {
            given[i] = types[i] == boolean.class ? (Object) (numbers[i] != 0)
                : types[i] == long.class ? (Object) numbers[i] : (Object) (int) numbers[i];
            told.append(' ').append(numbers[i]);
        }
        int got = (Integer) method.invoke(x, given);
        CHECK.same(told.toString(), got, y.call(name, numbers));
    }

    /** Mostly 0 .. most - 1, sometimes just outside, seldom far off. */
    private int near(int most) {
        if (chance.nextInt(60) == 0) {
            return FAR[chance.nextInt(FAR.length)];
        }
        return chance.nextInt(12) == 0 ? chance.nextInt(most + 4) - 2 : chance.nextInt(most);
    }

    private void cropCall(int kind) throws ReflectiveOperationException {
        int rest = Check.rest(1 + near(5), near(6), 1 + near(9));
        both("crop", kind, 1 + near(chance.nextBoolean() ? 20 : 60), 1 + near(12), rest);
    }

    private void houseCall() throws ReflectiveOperationException {
        both("house", 1 + near(6), chance.nextInt(3) == 0 ? near(256) : 0);
    }

    private void season() throws ReflectiveOperationException {
        int from = chance.nextInt(4) == 0 ? chance.nextInt(30) : 0;
        both("sheet", 0, 2, 30 - from);
        for (int i = from; i < 30; i++) {
            if (chance.nextInt(8) == 0) {
                both("none", 0, i - from);
            } else {
                both("cell", 0, i - from, chance.nextInt(100));
            }
        }
        both("warm", 0, from);
    }

    private void change(String name) throws ReflectiveOperationException {
        switch (name) {
            case "sow": both(name, near(8), near(8)); break;
            case "buy": both(name, near(8), 1 + near(chance.nextBoolean() ? 5 : 50)); break;
            case "hands": both(name, near(chance.nextBoolean() ? 15 : 200)); break;
            case "away": both(name, near(10), chance.nextInt() >>> chance.nextInt(4) & chance.nextInt()); break;
            case "dislike": both(name, near(10), near(8), chance.nextInt(2)); break;
            case "text": text(); break;
            case "feed": both(name, 1 + near(8), chance.nextLong()); break;
            case "sheet": both(name, near(4), near(3), near(12)); break;
            case "cell": both(name, near(4), near(10), near(1000) - chance.nextInt(300)); break;
            case "none": both(name, near(4), near(10)); break;
            case "warm": both(name, near(4), near(30)); break;
            case "season":
                if (chance.nextInt(3) == 0) {
                    season();
                }
                break;
            case "act": both(name, near(8), near(4), chance.nextInt() >> chance.nextInt(32)); break;
            case "forge": both(name, near(7), number(), number()); break;
            case "crop": cropCall(near(6)); break;
            case "house": houseCall(); break;
            default: both(name); break;
        }
    }

    private int number() {
        return chance.nextBoolean() ? near(6) : near(202) - 101;
    }

    private void question(String name) throws ReflectiveOperationException {
        switch (name) {
            case "fault": both(name, near(2)); break;
            case "ahead": both(name, 1 + near(10), near(4)); break;
            case "told": both(name, near(8), near(11)); break;
            case "bed": both(name, near(8), near(8)); break;
            case "ripens": both(name, near(8)); break;
            case "lot": both(name, near(chance.nextBoolean() ? 20 : 240), near(6)); break;
            case "box": case "why": case "lead": both(name, near(10), near(6)); break;
            case "houseTold": both(name, near(10), near(14)); break;
            case "holds": both(name, near(5), near(10)); break;
            case "count": both(name, near(38)); break;
            case "trace": both(name, near(11)); break;
            default: both(name); break;
        }
    }

    // ---- texts ----

    private void text() throws ReflectiveOperationException {
        StringBuilder text = new StringBuilder();
        int lines = chance.nextInt(5);
        for (int i = 0; i < lines; i++) {
            text.append(pick("give ", "give ", "bar ")).append(crop());
            if (chance.nextInt(4) != 0) {
                text.append(pick(" when ", "when ")).append(or(0));
            }
            text.append(pick(";", "; ", " ;"));
        }
        if (chance.nextInt(3) == 0) {
            spoil(text);
        }
        String all = text.length() > 200 ? text.substring(0, 200) : text.toString();
        for (int i = 0; i < all.length(); i += 8) {
            int n = Math.min(8, all.length() - i);
            long bytes = chance.nextLong() << 8 * (n - 1) << 8;
            for (int j = 0; j < n; j++) {
                bytes |= (long) all.charAt(i + j) << 8 * j;
            }
            both("feed", n, bytes);
        }
        both("lines");
        both("fault", 0);
        both("fault", 1);
        both("count", 3);
        for (int line = 0; line < 4; line++) {
            both("holds", line, chance.nextInt(4));
        }
    }

    private void spoil(StringBuilder text) {
        int at = chance.nextInt(text.length() + 1);
        String bit = pick(" ", "c", "1", "9", "(", ")", ";", "<", "=", "x", " not ", " and ", " or ", "\u00e9", "");
        int until = Math.min(text.length(), at + chance.nextInt(4));
        text.replace(at, until, bit);
    }

    private String pick(String... texts) {
        return texts[chance.nextInt(texts.length)];
    }

    private String crop() {
        return "c" + chance.nextInt(chance.nextInt(10) == 0 ? 10 : 3);
    }

    private String or(int depth) {
        return chance.nextInt(3) == 0 ? and(depth) + " or " + and(depth) : and(depth);
    }

    private String and(int depth) {
        return chance.nextInt(3) == 0 ? not(depth) + " and " + not(depth) : not(depth);
    }

    private String not(int depth) {
        int which = chance.nextInt(depth > 7 ? 4 : 8);
        if (which == 4) {
            return "not " + not(depth + 1);
        }
        if (which == 5) {
            return "(" + or(depth + 1) + ")";
        }
        String value = pick("stock " + crop(), "had " + crop(), "week", "size");
        return value + pick("<", "=", " < ", " = ") + chance.nextInt(chance.nextBoolean() ? 8 : 110);
    }
}
