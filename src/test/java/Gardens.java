import java.util.function.Consumer;
import java.util.function.Supplier;

/** Gardens from which several tests set out. */
final class Gardens {
    private Gardens() {
    }

    /** So many BOUGHT crops, the worth of each one more than its number. */
    static GardenBoxes shop(int crops, int keep) {
        GardenBoxes x = new GardenBoxes();
        for (int i = 0; i < crops; i++) {
            x.crop(5, 1, 1, Check.rest(1, keep, i + 1));
        }
        return x;
    }

    /** Three BOUGHT crops that keep long, and a house of size 3. */
    static GardenBoxes threeAndAHouse() {
        GardenBoxes x = shop(3, 12);
        x.house(3, 0);
        return x;
    }

    /** Crops of all kinds at work, three houses, lines, lots with something left; WEEK 4. */
    static GardenBoxes season() {
        GardenBoxes x = new GardenBoxes();
        for (int kind = 0; kind < 6; kind++) {
            x.crop(kind, 2 + kind, 3 + kind, Check.rest(2 + kind % 3, 2 + kind, 1 + kind));
        }
        Check.warmAll(x, 2);
        x.house(3, 0);
        x.house(2, 1);
        x.house(3, 4);
        x.away(1, 1 << 4);
        for (int bed = 0; bed < 5; bed++) {
            x.sow(bed, bed);
        }
        x.buy(5, 9);
        x.hands(7);
        Check.tell(x, "give c1 when stock c1<4;bar c0 when had c0<2;give c5 when size=2;");
        Check.weeks(x, 4);
        return x;
    }

    /** What a recipe makes, told something besides. */
    static Supplier<GardenBoxes> with(Supplier<GardenBoxes> recipe, Consumer<GardenBoxes> besides) {
        return () -> {
            GardenBoxes x = recipe.get();
            besides.accept(x);
            return x;
        };
    }

    /** A garden in which something of everything is: an image of another week, sheets, a fault, a trace, a tape. */
    static GardenBoxes life() {
        GardenBoxes x = new GardenBoxes();
        for (int kind = 0; kind < 6; kind++) {
            x.crop(kind, 2, 4, Check.rest(2, 3, 1 + kind));
        }
        Check.warmAll(x, 2);
        x.house(3, 0);
        x.house(2, 1);
        for (int bed = 0; bed < 5; bed++) {
            x.sow(bed, bed);
        }
        Check.tell(x, "give c1 when stock c1<4;bar c0 when had c0<2;");
        x.image();
        x.week();
        x.back();
        Check.weeks(x, 3);
        x.buy(5, 9);
        x.sheet(0, 0, 3);
        x.cell(0, 1, 7);
        x.sheet(1, 1, 3);
        x.cell(1, 1, 8);
        x.sheet(2, 2, 3);
        x.cell(2, 0, 88);
        x.none(2, 1);
        Check.tell(x, "give c0 when");
        x.act(5, 3, 1);
        Check.feed(x, "bar c1;gi");
        return x;
    }

    /** As many crops and houses as there can be, the last of each at work: crop 7 on beds 6 and 7; WEEK 2. */
    static GardenBoxes brim() {
        GardenBoxes x = new GardenBoxes();
        for (int i = 0; i < 7; i++) {
            x.crop(5, 1, 1, Check.rest(1, 12, 1 + i));
            x.buy(i, 20 + i);
        }
        x.crop(0, 1, 9, Check.rest(10, 1, 9));
        for (int i = 0; i < 9; i++) {
            x.house(1, 127);
        }
        x.house(6, 0);
        Check.warmAll(x, 1);
        x.sow(6, 7);
        x.sow(7, 7);
        x.hands(14);
        Check.tell(x, "give c7 when size=6;");
        Check.weeks(x, 2);
        return x;
    }
}
