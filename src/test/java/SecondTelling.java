import java.util.ArrayList;
import java.util.Arrays;
import java.util.Comparator;
import java.util.HashMap;
import java.util.List;
import java.util.Map;
import java.util.Optional;

/**
 * The document told a second time, in another way, for runs by chance: the state is what a list of events makes
 * of a new world, so an image is a list kept and what lies ahead is the list and some weeks more; the host's
 * refusals are the machine's own exceptions; acts are methods of a tree of classes.
 */
final class SecondTelling {
    private interface Event {
        void happen(World world);
    }

    private interface Test {
        boolean holds(World world, Home home);
    }

    private record Line(boolean give, int crop, Test test) {
    }

    private static final class Refused extends RuntimeException {
        private static final long serialVersionUID = 1L;
        final int status;

        Refused(int status) {
            super(null, null, false, false);
            this.status = status;
        }
    }

    private static final class Fault extends RuntimeException {
        private static final long serialVersionUID = 1L;
        final int place;

        Fault(int place) {
            super(null, null, false, false);
            this.place = place;
        }
    }

    // ---- acts: a tree of classes ----

    private static class Sown {
        int n;
        int kind;
        int need;
        int y;
        int last;
        int k;
        int worth;
        List<Integer> trace = new ArrayList<>();

        int grow(int x) {
            trace.add(10);
            return x + y;
        }

        int give(int x) {
            trace.add(11);
            return grow(x) * 2;
        }

        int keep(int x) {
            trace.add(12);
            return x - k;
        }

        int tell(int x) {
            trace.add(13);
            return give(x) ^ keep(x);
        }
    }

    private static class Planted extends Sown {
        @Override
        int grow(int x) {
            trace.add(20);
            return super.grow(x) + n;
        }

        @Override
        int tell(int x) {
            trace.add(21);
            return super.tell(x + 1);
        }
    }

    private static final class Cut extends Sown {
        @Override
        int give(int x) {
            trace.add(30);
            return super.give(x) - grow(x);
        }
    }

    private static class Stored extends Planted {
        @Override
        int keep(int x) {
            trace.add(40);
            return super.keep(x) * 3;
        }

        @Override
        int give(int x) {
            trace.add(41);
            return super.give(x + k);
        }
    }

    private static final class Gap extends Sown {
        @Override
        int tell(int x) {
            trace.add(50);
            return keep(x) - super.tell(x);
        }
    }

    private static final class Bought extends Stored {
        @Override
        int grow(int x) {
            trace.add(60);
            return super.grow(x) ^ 5;
        }

        @Override
        int keep(int x) {
            trace.add(61);
            return super.keep(x - 1);
        }
    }

    private static Sown made(int kind) {
        switch (kind) {
            case 0: return new Sown();
            case 1: return new Planted();
            case 2: return new Cut();
            case 3: return new Stored();
            case 4: return new Gap();
            default: return new Bought();
        }
    }

    private static final List<Class<?>> KINDS =
        List.of(Sown.class, Planted.class, Cut.class, Stored.class, Gap.class, Bought.class);

    // ---- the world ----

    private static final class Plot {
        int number;
        Sown sowing;
        int came;
        int heat;
        int offered;
        int ripe;
        int rests;
        int borne = -1;
        boolean fresh;
        boolean offeredNow;
        boolean emptiedNow;
    }

    private static final class Batch {
        Sown crop;
        int bed;
        int came;
        int week;
        int amount;
        List<String> used = new ArrayList<>();

        int left() {
            return amount - used.size();
        }
    }

    private record Thing(int crop, int why, int lot) {
    }

    private static final class Home {
        int size;
        int dislikes;
        int away;
        Map<Integer, List<Thing>> boxes = new HashMap<>();
        int got;

        int had(int crop, int week) {
            for (int w = week; w >= 0; w--) {
                for (Thing thing : boxes.getOrDefault(w, List.of())) {
                    if (thing.crop == crop) {
                        return week - w;
                    }
                }
            }
            return 99;
        }

        int holes() {
            int holes = 0;
            for (List<Thing> box : boxes.values()) {
                holes += (int) box.stream().filter(t -> t.crop < 0).count();
            }
            return holes;
        }
    }

    private static final class World {
        List<Sown> crops = new ArrayList<>();
        List<Plot> plots = new ArrayList<>();
        List<Home> homes = new ArrayList<>();
        List<Batch> batches = new ArrayList<>();
        List<Line> lines = List.of();
        float[] warmths = new float[30];
        int week;
        int hands = 20;
        Map<Sown, Integer> lost = new HashMap<>();
        int holesDone;

        World() {
            for (int i = 0; i < 8; i++) {
                Plot plot = new Plot();
                plot.number = i;
                plots.add(plot);
            }
        }

        int warmth(int w) {
            if (!Float.isNaN(warmths[w])) {
                return (int) warmths[w];
            }
            double sum = 0;
            int n = 0;
            for (int near : new int[] {w - 1, w + 1}) {
                if (near >= 0 && near < 30 && !Float.isNaN(warmths[near])) {
                    sum += warmths[near];
                    n++;
                }
            }
            return n == 0 ? 0 : (int) (sum / n);
        }

        int stock(int crop) {
            return batches.stream().filter(b -> b.crop.n == crop).mapToInt(Batch::left).sum();
        }

        int used(int crop, String how) {
            return (int) batches.stream().filter(b -> b.crop.n == crop)
                .flatMap(b -> b.used.stream()).filter(how::equals).count();
        }

        void doWeek() {
            plots.stream().filter(p -> p.sowing != null).forEach(this::grow);
            pick();
            plots.stream().filter(p -> p.sowing != null).forEach(this::close);
            int before = homes.stream().mapToInt(Home::holes).sum();
            for (int i = 0; i < homes.size(); i++) {
                Home home = homes.get((i + week) % homes.size());
                if ((home.away & 1 << week) == 0) {
                    fill(home);
                }
            }
            holesDone = homes.stream().mapToInt(Home::holes).sum() - before;
            for (Batch batch : batches) {
                if (week - batch.week >= batch.crop.k) {
                    while (batch.left() > 0) {
                        batch.used.add("spoilt");
                    }
                }
            }
            week++;
        }

        private void grow(Plot plot) {
            Sown crop = plot.sowing;
            int yield = crop.y + (plot.fresh ? 1 : 0);
            plot.offeredNow = false;
            plot.emptiedNow = false;
            plot.heat += warmth(week);
            if (plot.heat < crop.need) {
                return;
            }
            if (crop.kind == 2) {
                if (plot.rests > 0) {
                    plot.rests--;
                    return;
                }
                if (plot.ripe > 0) {
                    return;
                }
            }
            plot.offeredNow = true;
            plot.offered++;
            if (crop.kind <= 2) {
                plot.ripe = yield;
            } else if (crop.kind == 3 && plot.offered == 1) {
                plot.ripe = yield * crop.last;
            }
        }

        private void pick() {
            int free = hands;
            List<Plot> order = new ArrayList<>(plots);
            order.removeIf(p -> p.sowing == null || p.ripe == 0);
            order.sort(Comparator.<Plot>comparingInt(p -> p.sowing.k).thenComparingInt(p -> p.sowing.n)
                .thenComparingInt(p -> p.number));
            for (Plot plot : order) {
                if (free > 0 && batches.size() < 240) {
                    int n = Math.min(free, plot.ripe);
                    addBatch(plot.sowing, plot.number, plot.came, n);
                    free -= n;
                    plot.ripe -= n;
                    plot.emptiedNow = plot.ripe == 0;
                }
            }
        }

        void addBatch(Sown crop, int bed, int came, int n) {
            Batch batch = new Batch();
            batch.crop = crop;
            batch.bed = bed;
            batch.came = came;
            batch.week = week;
            batch.amount = n;
            batches.add(batch);
        }

        private void close(Plot plot) {
            Sown crop = plot.sowing;
            if (crop.kind < 2 && plot.offeredNow) {
                lost.merge(crop, plot.ripe, Integer::sum);
                plot.ripe = 0;
            }
            if (crop.kind == 2 && plot.emptiedNow) {
                plot.rests = 2;
            }
            boolean enough = crop.kind == 3 ? plot.offered > 0 : plot.offered == crop.last;
            boolean bare = crop.kind != 2 && crop.kind != 3 || plot.ripe == 0;
            if (enough && bare) {
                plot.borne = crop.n;
                plot.fresh = crop.kind == 4;
                plot.sowing = null;
            }
        }

        private void fill(Home home) {
            List<Thing> box = new ArrayList<>();
            home.boxes.put(week, box);
            for (int place = 0; place < home.size; place++) {
                List<Sown> good = new ArrayList<>(crops);
                good.removeIf(c -> stock(c.n) == 0 || (home.dislikes >> c.n) % 2 != 0
                    || box.stream().anyMatch(t -> t.crop == c.n));
                box.add(choose(home, good));
            }
        }

        private Thing choose(Home home, List<Sown> good) {
            for (int i = 0; i < lines.size(); i++) {
                Line line = lines.get(i);
                if (line.give && line.test.holds(this, home) && good.stream().anyMatch(c -> c.n == line.crop)) {
                    return hand(home, line.crop, i);
                }
            }
            good.removeIf(c -> lines.stream().anyMatch(l -> !l.give && l.crop == c.n && l.test.holds(this, home)));
            Optional<Sown> best = good.stream().min(Comparator.<Sown>comparingInt(c -> -stock(c.n))
                .thenComparingInt(c -> c.n));
            return best.isPresent() ? hand(home, best.get().n, -1) : new Thing(-1, -2, -1);
        }

        private Thing hand(Home home, int crop, int why) {
            Batch from = batches.stream().filter(b -> b.crop.n == crop && b.left() > 0)
                .min(Comparator.comparingInt(b -> b.week)).get();
            from.used.add("boxed");
            home.got += from.crop.worth;
            return new Thing(crop, why, batches.indexOf(from));
        }

        int sum(int what) {
            switch (what) {
                case 0: return homes.stream().mapToInt(Home::holes).sum();
                case 1: return homes.stream().mapToInt(h -> h.got).sum();
                case 2: return crops.stream().mapToInt(c -> used(c.n, "spoilt")).sum();
                default: return lost.values().stream().mapToInt(i -> i).sum();
            }
        }
    }

    // ---- the lines' text ----

    private record Token(char sort, String text, int place) {
    }

    private static final List<String> KEYS =
        Arrays.asList("give", "bar", "when", "and", "or", "not", "stock", "had", "week", "size");

    private static List<Token> cut(String text) {
        List<Token> tokens = new ArrayList<>();
        int i = 0;
        while (i < text.length()) {
            char at = text.charAt(i);
            int j = i + 1;
            if (at == ' ') {
                i = j;
                continue;
            }
            char sort = "<=();".indexOf(at) >= 0 ? at : '?';
            if (at >= '0' && at <= '9') {
                j = behind(text, i, '0', '9');
                sort = j - i > 3 ? '?' : '9';
            } else if (at >= 'a' && at <= 'z') {
                j = behind(text, i, 'a', 'z');
                sort = KEYS.contains(text.substring(i, j)) ? 'k' : '?';
                if (text.substring(i, j).equals("c") && behind(text, j, '0', '9') > j) {
                    sort = 'c';
                    j++;
                }
            }
            tokens.add(new Token(sort, text.substring(i, j), i));
            i = j;
        }
        tokens.add(new Token('$', "$", text.length()));
        return tokens;
    }

    private static int behind(String text, int from, char low, char high) {
        int i = from;
        while (i < text.length() && text.charAt(i) >= low && text.charAt(i) <= high) {
            i++;
        }
        return i;
    }

    private static final class Parser {
        final List<Token> tokens;
        int at;

        Parser(String text) {
            tokens = cut(text);
        }

        boolean is(String text) {
            return tokens.get(at).sort != '?' && tokens.get(at).text.equals(text);
        }

        String take(String... texts) {
            for (String text : texts) {
                if (is(text)) {
                    at++;
                    return text;
                }
            }
            throw new Fault(tokens.get(at).place);
        }

        int takeSort(char sort) {
            if (tokens.get(at).sort != sort) {
                throw new Fault(tokens.get(at).place);
            }
            String text = tokens.get(at++).text;
            return Integer.parseInt(sort == 'c' ? text.substring(1) : text);
        }

        List<Line> all() {
            List<Line> lines = new ArrayList<>();
            while (!is("$")) {
                if (lines.size() == 20) {
                    throw new Fault(tokens.get(at).place);
                }
                boolean give = take("give", "bar").equals("give");
                int crop = takeSort('c');
                Test test = (world, home) -> true;
                if (is("when")) {
                    at++;
                    test = or(0);
                }
                take(";");
                lines.add(new Line(give, crop, test));
            }
            return lines;
        }

        Test or(int around) {
            Test left = and(around);
            if (!is("or")) {
                return left;
            }
            at++;
            Test right = or(around);
            return (world, home) -> left.holds(world, home) || right.holds(world, home);
        }

        Test and(int around) {
            Test left = not(around);
            if (!is("and")) {
                return left;
            }
            at++;
            Test right = and(around);
            return (world, home) -> left.holds(world, home) && right.holds(world, home);
        }

        Test not(int around) {
            if (around == 6) {
                throw new Fault(tokens.get(at).place);
            }
            if (is("not")) {
                at++;
                Test inner = not(around + 1);
                return (world, home) -> !inner.holds(world, home);
            }
            if (is("(")) {
                at++;
                Test inner = or(around + 1);
                take(")");
                return inner;
            }
            String value = take("stock", "had", "week", "size");
            int crop = value.equals("stock") || value.equals("had") ? takeSort('c') : -1;
            boolean less = take("<", "=").equals("<");
            int number = takeSort('9');
            return (world, home) -> {
                int is = value.equals("stock") ? world.stock(crop) : value.equals("had") ? home.had(crop, world.week)
                    : value.equals("week") ? world.week : home.size;
                return less ? is < number : is == number;
            };
        }
    }

    // ---- the calls ----

    private List<Event> events = new ArrayList<>();
    private List<Event> image = null;
    private World world = new World();
    private int backs = 0;
    private String tape = "";
    private int faultKind = 0;
    private int faultPlace = -1;
    private List<Integer> trace = List.of();
    private final Object[] sheets = new Object[4];
    private int status = 0;

    /** Carries out a call by its name; x holds the numbers (a flag is 0 or 1). */
    int call(String name, long... x) {
        switch (name) {
            case "fault": return x[0] == 0 ? faultKind : x[0] == 1 ? faultPlace : -1;
            case "ahead": return ahead((int) x[0], (int) x[1]);
            case "told": return told((int) x[0], (int) x[1]);
            case "bed": return bed((int) x[0], (int) x[1]);
            case "ripens": return ripens((int) x[0]);
            case "lot": return lot((int) x[0], (int) x[1]);
            case "box": return thing((int) x[0], (int) x[1]).crop;
            case "why": return thing((int) x[0], (int) x[1]).why;
            case "lead": return thing((int) x[0], (int) x[1]).lot;
            case "houseTold": return houseTold((int) x[0], (int) x[1]);
            case "fair": return fair();
            case "holds": return holds((int) x[0], (int) x[1]);
            case "count": return count((int) x[0]);
            case "trace": return x[0] >= 0 && x[0] < trace.size() ? trace.get((int) x[0]) : -1;
            case "status": return status;
            default: break;
        }
        try {
            int answer = change(name, x);
            status = 0;
            return answer;
        } catch (Refused refused) {
            status = refused.status;
            return -1;
        }
    }

    private int change(String name, long... x) {
        switch (name) {
            case "crop": return crop((int) x[0], (int) x[1], (int) x[2], (int) x[3]);
            case "sow": return sow((int) x[0], (int) x[1]);
            case "buy": return buy((int) x[0], (int) x[1]);
            case "hands": return hands((int) x[0]);
            case "house": return house((int) x[0], (int) x[1]);
            case "away": return away((int) x[0], (int) x[1]);
            case "dislike": return dislike((int) x[0], (int) x[1], x[2] != 0);
            case "feed": return feed((int) x[0], x[1]);
            case "lines": return lines();
            case "warm": return warm((int) x[0], (int) x[1]);
            case "week": return week();
            case "image": image = new ArrayList<>(events); return 1;
            case "back": return back();
            case "act": return act((int) x[0], (int) x[1], (int) x[2]);
            case "sheet": return sheet((int) x[0], (int) x[1], (int) x[2]);
            case "cell": return cell((int) x[0], (int) x[1], (int) x[2]);
            case "none": return none((int) x[0], (int) x[1]);
            default: return forge((int) x[0], (int) x[1], (int) x[2]);
        }
    }

    private void happen(Event event) {
        events.add(event);
        event.happen(world);
    }

    private static World replayed(List<Event> events) {
        World world = new World();
        for (Event event : events) {
            event.happen(world);
        }
        return world;
    }

    private static void need(boolean so, int status) {
        if (!so) {
            throw new Refused(status);
        }
    }

    private boolean isCrop(int crop) {
        return crop >= 0 && crop < world.crops.size();
    }

    private boolean isHome(int home) {
        return home >= 0 && home < world.homes.size();
    }

    private int crop(int kind, int need, int yield, int rest) {
        boolean fits = kind >= 0 && kind < 6 && need > 0 && need <= 400 && yield > 0 && yield <= 20 && rest > 0;
        int last = rest % 16;
        int keep = rest / 16 % 16;
        int worth = rest / 256;
        need(fits && last > 0 && last <= 10 && keep <= 12 && worth > 0 && worth <= 9, 1);
        need(world.crops.size() < 8, 2);
        happen(w -> {
            Sown crop = made(kind);
            crop.n = w.crops.size();
            crop.kind = kind;
            crop.need = need;
            crop.y = yield;
            crop.last = last;
            crop.k = keep;
            crop.worth = worth;
            w.crops.add(crop);
        });
        return world.crops.size() - 1;
    }

    private int sow(int bed, int crop) {
        need(bed >= 0 && bed < 8 && isCrop(crop) && world.crops.get(crop).kind != 5, 1);
        Plot now = world.plots.get(bed);
        need(now.sowing == null && !(now.borne == crop && !now.fresh) && world.week != 30, 3);
        happen(w -> {
            Plot plot = w.plots.get(bed);
            plot.sowing = w.crops.get(crop);
            plot.came = w.week;
            plot.heat = plot.sowing instanceof Planted ? plot.sowing.need / 2 : 0;
            plot.offered = 0;
            plot.ripe = 0;
            plot.rests = 0;
        });
        return 1;
    }

    private int buy(int crop, int n) {
        need(isCrop(crop) && world.crops.get(crop) instanceof Bought && n > 0 && n <= 50, 1);
        need(world.batches.size() < 240, 2);
        need(world.week != 30, 3);
        happen(w -> w.addBatch(w.crops.get(crop), -1, -1, n));
        return world.batches.size() - 1;
    }

    private int hands(int n) {
        need(n >= 0 && n <= 200, 1);
        int before = world.hands;
        happen(w -> w.hands = n);
        return before;
    }

    private int house(int size, int dislikes) {
        need(size > 0 && size < 7 && dislikes >> world.crops.size() == 0, 1);
        need(world.homes.size() < 10, 2);
        happen(w -> {
            Home home = new Home();
            home.size = size;
            home.dislikes = dislikes;
            w.homes.add(home);
        });
        return world.homes.size() - 1;
    }

    private int away(int house, int bits) {
        need(isHome(house) && bits >> 30 == 0, 1);
        int before = world.homes.get(house).away;
        happen(w -> w.homes.get(house).away = bits);
        return before;
    }

    private int dislike(int house, int crop, boolean is) {
        need(isHome(house) && isCrop(crop), 1);
        int before = world.homes.get(house).dislikes;
        int after = is ? before | 1 << crop : before & ~(1 << crop);
        happen(w -> w.homes.get(house).dislikes = after);
        return before == after ? 0 : 1;
    }

    private int feed(int n, long bytes) {
        need(n > 0 && n < 9, 1);
        need(tape.length() + n <= 200, 2);
        for (int i = 0; i < n; i++) {
            tape += (char) (bytes >> 8 * i & 255);
        }
        return tape.length();
    }

    private int lines() {
        Parser parser = new Parser(tape);
        tape = "";
        try {
            List<Line> lines = parser.all();
            for (Token token : parser.tokens) {
                if (token.sort == 'c' && !isCrop(token.text.charAt(1) - '0')) {
                    faultKind = 2;
                    faultPlace = token.place;
                    throw new Refused(3);
                }
            }
            faultKind = 0;
            faultPlace = -1;
            happen(w -> w.lines = lines);
            return lines.size();
        } catch (Fault fault) {
            faultKind = 1;
            faultPlace = fault.place;
            throw new Refused(3);
        }
    }

    private int warm(int sheet, int from) {
        need(sheet >= 0 && sheet < 4 && from >= 0 && from < 30, 1);
        need(sheets[sheet] != null, 10);
        need(sheets[sheet] instanceof float[], 11);
        float[] told = ((float[]) sheets[sheet]).clone();
        need(from + told.length <= 30, 12);
        for (float number : told) {
            need(!(number < 0) && !(number > 100), 3);
        }
        happen(w -> System.arraycopy(told, 0, w.warmths, from, told.length));
        return told.length;
    }

    private int week() {
        need(world.week < 30, 3);
        happen(World::doWeek);
        return world.holesDone;
    }

    private int ahead(int n, int what) {
        if (n < 1 || n > 10 || what < 0 || what > 3) {
            return -1;
        }
        World next = replayed(events);
        int before = next.sum(what);
        for (int i = 0; i < n; i++) {
            if (next.week < 30) {
                next.doWeek();
            }
        }
        return next.sum(what) - before;
    }

    private int back() {
        need(backs < 10, 2);
        need(image != null, 3);
        backs++;
        events = new ArrayList<>(image);
        world = replayed(events);
        return world.week;
    }

    private int told(int crop, int what) {
        if (!isCrop(crop) || what < 0 || what > 10) {
            return -1;
        }
        Sown of = world.crops.get(crop);
        int picked = world.batches.stream().filter(b -> b.crop == of).mapToInt(b -> b.amount).sum();
        int[] all = {of.kind, of.need, of.y, of.last, of.k, of.worth, world.stock(crop), picked,
            world.lost.getOrDefault(of, 0), world.used(crop, "boxed"), world.used(crop, "spoilt")};
        return all[what];
    }

    private int bed(int bed, int what) {
        if (bed < 0 || bed > 7 || what < 0 || what > 7) {
            return -1;
        }
        Plot plot = world.plots.get(bed);
        int fresh = plot.fresh ? 1 : 0;
        int[] bare = {-1, -1, 0, 0, 0, 0, plot.borne, fresh};
        if (plot.sowing == null) {
            return bare[what];
        }
        int[] all = {plot.sowing.n, plot.came, plot.heat, plot.offered, plot.ripe, plot.rests, plot.borne, fresh};
        return all[what];
    }

    /** By letting the weeks go by in a copy. */
    private int ripens(int bed) {
        if (bed < 0 || bed > 7 || world.plots.get(bed).sowing == null || world.plots.get(bed).offered > 0) {
            return -1;
        }
        World next = replayed(events);
        Plot plot = next.plots.get(bed);
        while (next.week < 30) {
            next.doWeek();
            if (plot.offered > 0) {
                return next.week - 1;
            }
        }
        return -1;
    }

    private int lot(int lot, int what) {
        if (lot < 0 || lot >= world.batches.size() || what < 0 || what > 5) {
            return -1;
        }
        Batch batch = world.batches.get(lot);
        int[] all = {batch.crop.n, batch.bed, batch.came, batch.week, batch.amount, batch.left()};
        return all[what];
    }

    private Thing thing(int house, int place) {
        Thing nothing = new Thing(-1, -3, -1);
        if (!isHome(house)) {
            return nothing;
        }
        List<Thing> box = world.homes.get(house).boxes.getOrDefault(world.week - 1, List.of());
        return place >= 0 && place < box.size() ? box.get(place) : nothing;
    }

    private int houseTold(int house, int what) {
        if (!isHome(house) || what < 0 || what > 13) {
            return -1;
        }
        Home home = world.homes.get(house);
        if (what >= 6) {
            return home.had(what - 6, world.week);
        }
        int[] all = {home.size, home.dislikes, home.away, home.got, home.holes(), home.boxes.size()};
        return all[what];
    }

    private int fair() {
        int greatest = 0;
        for (Home one : world.homes) {
            for (Home other : world.homes) {
                if (one.size == other.size) {
                    greatest = Math.max(greatest, one.got - other.got);
                }
            }
        }
        return greatest;
    }

    private int holds(int line, int house) {
        if (!isHome(house) || line < 0 || line >= world.lines.size()) {
            return -1;
        }
        return world.lines.get(line).test.holds(world, world.homes.get(house)) ? 1 : 0;
    }

    private int count(int what) {
        if (what < 0 || what > 37) {
            return -1;
        }
        int[] all = {world.crops.size(), world.homes.size(), world.batches.size(), world.lines.size(), world.week,
            world.hands, tape.length(), trace.size()};
        return what < 8 ? all[what] : world.warmth(what - 8);
    }

    private int act(int crop, int act, int x) {
        need(isCrop(crop) && act >= 0 && act < 4, 1);
        Sown of = world.crops.get(crop);
        of.trace = new ArrayList<>();
        int answer = act == 0 ? of.grow(x) : act == 1 ? of.give(x) : act == 2 ? of.keep(x) : of.tell(x);
        trace = of.trace;
        return answer;
    }

    private int sheet(int sheet, int sort, int n) {
        need(sheet >= 0 && sheet < 4 && sort >= -1 && sort < 3 && (sort == -1 || n >= 0 && n <= 40), 1);
        sheets[sheet] = sort == -1 ? null : sort == 0 ? new byte[n] : sort == 1 ? new short[n] : new float[n];
        return 1;
    }

    private int cell(int sheet, int i, int v) {
        need(sheet >= 0 && sheet < 4 && v >= -1000 && v <= 1000, 1);
        return host(() -> {
            Object row = sheets[sheet];
            if (row instanceof short[] shorts) {
                shorts[i] = (short) v;
            } else if (row instanceof float[] floats) {
                floats[i] = v / 8f;
            } else {
                ((byte[]) row)[i] = (byte) v;
            }
            return 1;
        });
    }

    private int none(int sheet, int i) {
        need(sheet >= 0 && sheet < 4, 1);
        return host(() -> {
            ((float[]) sheets[sheet])[i] = Float.NaN;
            return 1;
        });
    }

    private interface Deed {
        int doIt();
    }

    /** What the machine throws is the status: this telling is the host. */
    private static int host(Deed deed) {
        try {
            return deed.doIt();
        } catch (NullPointerException e) {
            throw new Refused(10);
        } catch (ClassCastException e) {
            throw new Refused(11);
        } catch (IndexOutOfBoundsException e) {
            throw new Refused(12);
        } catch (NegativeArraySizeException e) {
            throw new Refused(13);
        } catch (ArrayStoreException e) {
            throw new Refused(14);
        } catch (ArithmeticException e) {
            throw new Refused(15);
        }
    }

    private int forge(int what, int n, int k) {
        need(what >= 0 && what < 7 && n >= -100 && n <= 100 && k >= -100 && k <= 100, 1);
        int number = (k % 8 + 8) % 8;
        Sown crop = isCrop(number) ? world.crops.get(number) : null;
        Object sheet = sheets[(k % 4 + 4) % 4];
        return host(() -> {
            switch (what) {
                case 0: return ((Sown) KINDS.get((n % 6 + 6) % 6).cast(crop)).kind;
                case 1: return new int[n].length;
                case 2: return ((short[]) sheet)[n];
                case 3: return copied((byte[]) sheet, n);
                case 4: return stored(new Planted[1], crop);
                case 5: return 1000 / n;
                default: return thrown(n % 2 == 0 ? null : new IllegalStateException());
            }
        });
    }

    private static int copied(byte[] from, int n) {
        byte[] to = new byte[6];
        System.arraycopy(from, 1, to, n, n);
        int sum = 0;
        for (byte number : to) {
            sum += number;
        }
        return sum;
    }

    private static int stored(Sown[] row, Sown crop) {
        row[0] = crop;
        return row[0] == null ? 0 : row[0].kind;
    }

    private static int thrown(IllegalStateException failure) {
        try {
            throw failure;
        } catch (IllegalStateException e) {
            return 1;
        }
    }
}
