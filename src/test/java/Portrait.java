import java.util.ArrayList;
import java.util.List;
import java.util.function.Supplier;
import java.util.function.ToIntFunction;

/**
 * All that calls can tell of an object but its status. An object answers at most 512 calls, so the questions go to
 * several objects that are made in the same way; the last ones are told more, to bring out what no question tells.
 */
final class Portrait {
    private static final int AT_ONCE = 200;
    private static final List<ToIntFunction<GardenBoxes>> QUESTIONS = questions();

    private Portrait() {
    }

    static String of(Supplier<GardenBoxes> recipe) {
        return asked(recipe) + sheetsRead(recipe) + warmed(recipe) + gone(recipe) + goneBack(recipe);
    }

    /** What questions alone tell. */
    static String asked(Supplier<GardenBoxes> recipe) {
        StringBuilder all = new StringBuilder();
        GardenBoxes x = recipe.get();
        for (int i = 0; i < QUESTIONS.size(); i++) {
            if (i % AT_ONCE == 0) {
                x = recipe.get();
            }
            all.append(QUESTIONS.get(i).applyAsInt(x)).append(' ');
        }
        return all.toString();
    }

    private static List<ToIntFunction<GardenBoxes>> questions() {
        List<ToIntFunction<GardenBoxes>> all = new ArrayList<>();
        add(all, 1, 38, (i, what) -> x -> x.count(what));
        add(all, 8, 11, (crop, what) -> x -> x.told(crop, what));
        add(all, 8, 8, (bed, what) -> x -> x.bed(bed, what));
        add(all, 1, 8, (i, bed) -> x -> x.ripens(bed));
        add(all, 12, 6, (lot, what) -> x -> x.lot(lot, what));
        add(all, 10, 6, (house, place) -> x -> x.box(house, place));
        add(all, 10, 6, (house, place) -> x -> x.why(house, place));
        add(all, 10, 6, (house, place) -> x -> x.lead(house, place));
        add(all, 10, 14, (house, what) -> x -> x.houseTold(house, what));
        add(all, 1, 1, (i, j) -> x -> x.fair());
        add(all, 5, 3, (line, house) -> x -> x.holds(line, house));
        add(all, 10, 4, (n, what) -> x -> x.ahead(1 + n, what));
        add(all, 1, 2, (i, what) -> x -> x.fault(what));
        add(all, 1, 12, (i, body) -> x -> x.trace(body));
        return all;
    }

    private interface Asked {
        ToIntFunction<GardenBoxes> with(int i, int j);
    }

    private static void add(List<ToIntFunction<GardenBoxes>> all, int rows, int columns, Asked asked) {
        for (int i = 0; i < rows; i++) {
            for (int j = 0; j < columns; j++) {
                all.add(asked.with(i, j));
            }
        }
    }

    /** The numbers of bytes and shorts, and by their refusals the sorts of all sheets. */
    private static String sheetsRead(Supplier<GardenBoxes> recipe) {
        StringBuilder all = new StringBuilder("sheets ");
        GardenBoxes x = recipe.get();
        for (int sheet = 0; sheet < 4; sheet++) {
            for (int n = 0; n < 6; n++) {
                all.append(x.forge(2, n, sheet)).append(':').append(x.status()).append(' ');
                all.append(x.forge(3, n, sheet)).append(':').append(x.status()).append(' ');
            }
        }
        return all.toString();
    }

    /** The numbers of floats, by what they are as warmths; and what the tape has, by the fault that it makes. */
    private static String warmed(Supplier<GardenBoxes> recipe) {
        StringBuilder all = new StringBuilder("warmed ");
        GardenBoxes x = recipe.get();
        for (int sheet = 0; sheet < 4; sheet++) {
            all.append(x.warm(sheet, 0)).append(':').append(x.status()).append(' ');
            for (int w = 0; w < 12; w++) {
                all.append(x.count(8 + w)).append(' ');
            }
        }
        return all.append(x.lines()).append(' ').append(x.fault(0)).append(' ').append(x.fault(1)).toString();
    }

    /** What the weeks that come bring. */
    private static String gone(Supplier<GardenBoxes> recipe) {
        StringBuilder all = new StringBuilder("gone ");
        GardenBoxes x = recipe.get();
        for (int i = 0; i < 12; i++) {
            all.append(x.week()).append(' ').append(x.count(2)).append(' ').append(x.houseTold(0, 3)).append(' ');
            for (int bed = 0; bed < 8; bed++) {
                all.append(x.bed(bed, 0)).append(' ');
            }
        }
        return all.toString();
    }

    /** What the image has, and how often it can be gone back to. */
    private static String goneBack(Supplier<GardenBoxes> recipe) {
        StringBuilder all = new StringBuilder("back ");
        GardenBoxes x = recipe.get();
        for (int i = 0; i < 11; i++) {
            all.append(x.back()).append(':').append(x.status()).append(' ');
        }
        return all.append(asked(Gardens.with(recipe, GardenBoxes::back))).toString();
    }
}
