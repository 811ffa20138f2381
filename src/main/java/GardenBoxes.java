import java.util.Arrays;

/** A box scheme: beds, crops, lots, houses and the lines that fill their boxes week by week. */
public final class GardenBoxes {
    public static final int NONE = -1;

    private static final int CROPS_MOST = 8;
    private static final int BEDS = 8;
    private static final int HOUSES_MOST = 10;
    private static final int PLACES_MOST = 6;
    private static final int LOTS_MOST = 240;
    private static final int BOUGHT_MOST = 50;
    private static final int HANDS_AT_FIRST = 20;
    private static final int HANDS_MOST = 200;
    private static final int WEEKS = 30;
    private static final int AWAY_MOST = (1 << WEEKS) - 1;
    private static final int AHEAD_MOST = 10;
    private static final int BACKS_MOST = 10;
    private static final int TAPE_MOST = 200;
    private static final int LINES_MOST = 20;
    private static final int NESTED_MOST = 6;
    private static final int DIGITS_MOST = 3;
    private static final int TRACE_MOST = 50;
    private static final int ACT_DEPTH_MOST = 20;
    private static final int SHEETS = 4;
    private static final int SHEET_MOST = 40;
    private static final int CELL_MOST = 1000;
    private static final int FORGE_MOST = 100;
    private static final int WARMTH_MOST = 800;
    private static final int EIGHTHS = 8;
    private static final int NEVER_HAD = 99;
    /** Below all numbers that a sheet can hold. */
    private static final int NO_NUMBER = -CELL_MOST - 1;

    private static final int NO_FAULT = 0;
    private static final int FAULT_IN_FORM = 1;
    private static final int FAULT_IN_CROP = 2;

    private static final int BY_STOCK = -1;
    private static final int A_HOLE = -2;
    private static final int NO_PLACE = -3;

    private static final int ALL_DONE = 0;
    private static final int BAD_NUMBER = 1;
    private static final int NO_ROOM = 2;
    private static final int NOT_SO = 3;
    private static final int NOTHING_THERE = 10;
    private static final int OTHER_SORT = 11;
    private static final int PLACE_OUTSIDE = 12;
    private static final int SIZE_BELOW_ZERO = 13;
    private static final int DOES_NOT_FIT = 14;
    private static final int BY_ZERO = 15;

    private static final int SOWN = 0;
    private static final int PLANTED = 1;
    private static final int CUT = 2;
    private static final int STORED = 3;
    private static final int GAP = 4;
    private static final int BOUGHT = 5;
    private static final int KINDS = 6;
    private static final int[] ABOVE = {-1, 0, 0, 1, 0, 3};

    private static final int GROW = 0;
    private static final int GIVE = 1;
    private static final int KEEP = 2;
    private static final int TELL = 3;
    private static final int ACTS = 4;
    private static final int[] BODIES = {
        10, 11, 12, 13,
        20, 0, 0, 21,
        0, 30, 0, 0,
        0, 41, 40, 0,
        0, 0, 0, 50,
        60, 0, 61, 0,
    };

    private static final int HOLES = 0;
    private static final int WORTH = 1;
    private static final int SPOILT = 2;
    private static final int LOST = 3;
    private static final int SUMS = 4;

    private static final int MISSING = -1;
    private static final int BYTES = 0;
    private static final int SHORTS = 1;
    private static final int FLOATS = 2;

    private static final int TEXT_END = 0;
    private static final int WRONG = 1;
    private static final int NUMBER = 2;
    private static final int CROP = 3;
    private static final int LESS = 4;
    private static final int EQUAL = 5;
    private static final int OPEN = 6;
    private static final int CLOSE = 7;
    private static final int LINE_END = 8;
    private static final int KEY_GIVE = 10;
    private static final int KEY_BAR = 11;
    private static final int KEY_WHEN = 12;
    private static final int KEY_AND = 13;
    private static final int KEY_OR = 14;
    private static final int KEY_NOT = 15;
    private static final int KEY_STOCK = 16;
    private static final int KEY_HAD = 17;
    private static final int KEY_WEEK = 18;
    private static final int KEY_SIZE = 19;

    private final Tape tape;
    private final Tokens tokens;
    private final LineReader reader;
    private final Garden now;
    private final Garden kept;
    private final Garden trial;
    private final Performer performer;
    private final Sheet[] sheets;
    private boolean hasImage;
    private int timesBack;
    private int latestStatus;

    public GardenBoxes() {
        tape = new Tape();
        tokens = new Tokens();
        reader = new LineReader();
        Lines noLines = new Lines(reader);
        now = new Garden(noLines);
        kept = new Garden(noLines);
        trial = new Garden(noLines);
        performer = new Performer();
        sheets = new Sheet[SHEETS];
        for (int i = 0; i < sheets.length; i++) {
            sheets[i] = new Sheet();
        }
        hasImage = false;
        timesBack = 0;
        latestStatus = ALL_DONE;
    }

    public int crop(int kind, int need, int yield, int rest) {
        boolean fits = isWithin(kind, SOWN, BOUGHT) && isWithin(need, 1, 400)
            && isWithin(yield, 1, 20) && isWithin(lastOf(rest), 1, 10)
            && isWithin(keepOf(rest), 0, 12) && isWithin(worthOf(rest), 1, 9);
        if (!fits) {
            return refuse(BAD_NUMBER);
        }
        if (now.cropCount >= CROPS_MOST) {
            return refuse(NO_ROOM);
        }
        return done(now.addCrop(new Crop(now.cropCount, kind, need, yield, rest)));
    }

    public int sow(int bed, int crop) {
        Bed where = now.bedAt(bed);
        Crop what = now.cropAt(crop);
        if (where == null || what == null || what.kind == BOUGHT) {
            return refuse(BAD_NUMBER);
        }
        boolean boreItLast = where.lastCrop == crop && !where.fresh;
        if (where.crop != null || boreItLast || now.week >= WEEKS) {
            return refuse(NOT_SO);
        }
        where.begin(what, now.week);
        return done(1);
    }

    public int buy(int crop, int n) {
        Crop what = now.cropAt(crop);
        if (what == null || what.kind != BOUGHT || !isWithin(n, 1, BOUGHT_MOST)) {
            return refuse(BAD_NUMBER);
        }
        if (!now.lots.hasRoom()) {
            return refuse(NO_ROOM);
        }
        if (now.week >= WEEKS) {
            return refuse(NOT_SO);
        }
        return done(now.addLot(what, NONE, NONE, n));
    }

    public int hands(int n) {
        if (!isWithin(n, 0, HANDS_MOST)) {
            return refuse(BAD_NUMBER);
        }
        int before = now.hands;
        now.hands = n;
        return done(before);
    }

    public int house(int size, int dislikes) {
        if (!isWithin(size, 1, PLACES_MOST) || !isWithin(dislikes, 0, (1 << now.cropCount) - 1)) {
            return refuse(BAD_NUMBER);
        }
        if (now.houseCount >= HOUSES_MOST) {
            return refuse(NO_ROOM);
        }
        return done(now.addHouse(size, dislikes));
    }

    public int away(int house, int bits) {
        House who = now.houseAt(house);
        if (who == null || !isWithin(bits, 0, AWAY_MOST)) {
            return refuse(BAD_NUMBER);
        }
        int before = who.weeksAway;
        who.weeksAway = bits;
        return done(before);
    }

    public int dislike(int house, int crop, boolean is) {
        House who = now.houseAt(house);
        Crop what = now.cropAt(crop);
        if (who == null || what == null) {
            return refuse(BAD_NUMBER);
        }
        boolean was = who.dislikesCrop(crop);
        if (was != is) {
            who.dislikes ^= 1 << crop;
        }
        return done(was != is ? 1 : 0);
    }

    public int feed(int n, long bytes) {
        if (!isWithin(n, 1, 8)) {
            return refuse(BAD_NUMBER);
        }
        if (tape.length + n > TAPE_MOST) {
            return refuse(NO_ROOM);
        }
        tape.append(n, bytes);
        return done(tape.length);
    }

    public int lines() {
        tokens.cutUp(tape);
        tape.length = 0;
        reader.readAll(tokens, now.cropCount);
        if (reader.faultKind != NO_FAULT) {
            return refuse(NOT_SO);
        }
        now.lines = new Lines(reader);
        return done(now.lines.size);
    }

    public int fault(int what) {
        return what == 0 ? reader.faultKind : what == 1 ? reader.faultPlace : NONE;
    }

    public int warm(int sheet, int w) {
        Sheet from = sheetAt(sheet);
        if (from == null || !isWithin(w, 0, WEEKS - 1)) {
            return refuse(BAD_NUMBER);
        }
        if (from.sort == MISSING) {
            return refuse(NOTHING_THERE);
        }
        if (from.sort != FLOATS) {
            return refuse(OTHER_SORT);
        }
        if (w + from.size > WEEKS) {
            return refuse(PLACE_OUTSIDE);
        }
        if (!from.holdsWarmths()) {
            return refuse(NOT_SO);
        }
        System.arraycopy(from.numbers, 0, now.warmths, w, from.size);
        return done(from.size);
    }

    public int week() {
        if (now.week >= WEEKS) {
            return refuse(NOT_SO);
        }
        now.clearSums();
        now.doWeek();
        return done(now.sums[HOLES]);
    }

    public int ahead(int n, int what) {
        if (!isWithin(n, 1, AHEAD_MOST) || !isWithin(what, HOLES, LOST)) {
            return NONE;
        }
        trial.copyFrom(now);
        trial.clearSums();
        for (int i = 0; i < n && trial.week < WEEKS; i++) {
            trial.doWeek();
        }
        return trial.sums[what];
    }

    public int image() {
        kept.copyFrom(now);
        hasImage = true;
        return done(1);
    }

    public int back() {
        if (timesBack >= BACKS_MOST) {
            return refuse(NO_ROOM);
        }
        if (!hasImage) {
            return refuse(NOT_SO);
        }
        timesBack++;
        now.copyFrom(kept);
        return done(now.week);
    }

    public int told(int crop, int what) {
        Crop of = now.cropAt(crop);
        if (of == null) {
            return NONE;
        }
        switch (what) {
            case 0: return of.kind;
            case 1: return of.need;
            case 2: return of.bears;
            case 3: return of.last;
            case 4: return of.keep;
            case 5: return of.worth;
            case 6: return now.stock[crop];
            case 7: return now.picked[crop];
            case 8: return now.lost[crop];
            case 9: return now.boxed[crop];
            case 10: return now.spoilt[crop];
            default: return NONE;
        }
    }

    public int bed(int bed, int what) {
        Bed of = now.bedAt(bed);
        if (of == null) {
            return NONE;
        }
        switch (what) {
            case 0: return of.crop == null ? NONE : of.crop.number;
            case 1: return of.came;
            case 2: return of.heat;
            case 3: return of.offered;
            case 4: return of.ripe;
            case 5: return of.rests;
            case 6: return of.lastCrop;
            case 7: return of.fresh ? 1 : 0;
            default: return NONE;
        }
    }

    public int ripens(int bed) {
        Bed of = now.bedAt(bed);
        return of == null ? NONE : now.firstOffer(of);
    }

    public int lot(int lot, int what) {
        Lots lots = now.lots;
        if (!isWithin(lot, 0, lots.size - 1)) {
            return NONE;
        }
        switch (what) {
            case 0: return lots.crops[lot];
            case 1: return lots.beds[lot];
            case 2: return lots.sownIn[lot];
            case 3: return lots.pickedIn[lot];
            case 4: return lots.amounts[lot];
            case 5: return lots.left[lot];
            default: return NONE;
        }
    }

    public int box(int house, int place) {
        House of = boxOwner(house, place);
        return of == null ? NONE : of.cropsIn[place];
    }

    public int why(int house, int place) {
        House of = boxOwner(house, place);
        return of == null ? NO_PLACE : of.reasons[place];
    }

    public int lead(int house, int place) {
        House of = boxOwner(house, place);
        return of == null ? NONE : of.lotsIn[place];
    }

    public int houseTold(int house, int what) {
        House of = now.houseAt(house);
        if (of == null) {
            return NONE;
        }
        switch (what) {
            case 0: return of.size;
            case 1: return of.dislikes;
            case 2: return of.weeksAway;
            case 3: return of.got;
            case 4: return of.holes;
            case 5: return of.boxes;
            default: return isWithin(what, 6, 5 + CROPS_MOST) ? of.weeksSince(what - 6, now.week) : NONE;
        }
    }

    public int fair() {
        return now.greatestDifference();
    }

    public int holds(int line, int house) {
        House of = now.houseAt(house);
        if (of == null || !isWithin(line, 0, now.lines.size - 1)) {
            return NONE;
        }
        return now.lines.isMet(line, now, of) ? 1 : 0;
    }

    public int count(int what) {
        switch (what) {
            case 0: return now.cropCount;
            case 1: return now.houseCount;
            case 2: return now.lots.size;
            case 3: return now.lines.size;
            case 4: return now.week;
            case 5: return now.hands;
            case 6: return tape.length;
            case 7: return performer.traceSize;
            default: return isWithin(what, 8, 7 + WEEKS) ? now.warmthOf(what - 8) : NONE;
        }
    }

    public int act(int crop, int act, int x) {
        Crop of = now.cropAt(crop);
        if (of == null || !isWithin(act, GROW, TELL)) {
            return refuse(BAD_NUMBER);
        }
        return done(performer.start(of, act, x));
    }

    public int trace(int i) {
        return isWithin(i, 0, performer.traceSize - 1) ? performer.bodies[i] : NONE;
    }

    public int sheet(int sheet, int sort, int n) {
        Sheet which = sheetAt(sheet);
        boolean fits = sort == MISSING || isWithin(sort, BYTES, FLOATS) && isWithin(n, 0, SHEET_MOST);
        if (which == null || !fits) {
            return refuse(BAD_NUMBER);
        }
        which.lay(sort, sort == MISSING ? 0 : n);
        return done(1);
    }

    public int cell(int sheet, int i, int v) {
        Sheet which = sheetAt(sheet);
        if (which == null || !isWithin(v, -CELL_MOST, CELL_MOST)) {
            return refuse(BAD_NUMBER);
        }
        if (which.sort == MISSING) {
            return refuse(NOTHING_THERE);
        }
        if (!isWithin(i, 0, which.size - 1)) {
            return refuse(PLACE_OUTSIDE);
        }
        which.numbers[i] = which.sort == BYTES ? (byte) v : v;
        return done(1);
    }

    public int none(int sheet, int i) {
        Sheet which = sheetAt(sheet);
        if (which == null) {
            return refuse(BAD_NUMBER);
        }
        if (which.sort == MISSING) {
            return refuse(NOTHING_THERE);
        }
        if (which.sort != FLOATS) {
            return refuse(OTHER_SORT);
        }
        if (!isWithin(i, 0, which.size - 1)) {
            return refuse(PLACE_OUTSIDE);
        }
        which.numbers[i] = NO_NUMBER;
        return done(1);
    }

    public int forge(int what, int n, int k) {
        if (!isWithin(n, -FORGE_MOST, FORGE_MOST) || !isWithin(k, -FORGE_MOST, FORGE_MOST)) {
            return refuse(BAD_NUMBER);
        }
        switch (what) {
            case 0: return takeForKind(now.cropAt(Math.floorMod(k, CROPS_MOST)), Math.floorMod(n, KINDS));
            case 1: return n < 0 ? refuse(SIZE_BELOW_ZERO) : done(n);
            case 2: return readAsShorts(sheetAt(Math.floorMod(k, SHEETS)), n);
            case 3: return copyAsBytes(sheetAt(Math.floorMod(k, SHEETS)), n);
            case 4: return putAmongPlanted(now.cropAt(Math.floorMod(k, CROPS_MOST)));
            case 5: return n == 0 ? refuse(BY_ZERO) : done(1000 / n);
            case 6: return Math.floorMod(n, 2) == 0 ? refuse(NOTHING_THERE) : done(1);
            default: return refuse(BAD_NUMBER);
        }
    }

    public int status() {
        return latestStatus;
    }

    private int done(int answer) {
        latestStatus = ALL_DONE;
        return answer;
    }

    private int refuse(int why) {
        latestStatus = why;
        return NONE;
    }

    private Sheet sheetAt(int number) {
        return isWithin(number, 0, sheets.length - 1) ? sheets[number] : null;
    }

    /** The house, if its box of the latest week has this place; else null. */
    private House boxOwner(int house, int place) {
        House of = now.houseAt(house);
        return of != null && of.hasBox && isWithin(place, 0, of.size - 1) ? of : null;
    }

    private int takeForKind(Crop crop, int kind) {
        if (crop == null) {
            return refuse(NOTHING_THERE);
        }
        return isOfKind(crop.kind, kind) ? done(crop.kind) : refuse(OTHER_SORT);
    }

    private int readAsShorts(Sheet from, int place) {
        if (from == null || from.sort == MISSING) {
            return refuse(NOTHING_THERE);
        }
        if (from.sort != SHORTS) {
            return refuse(OTHER_SORT);
        }
        return isWithin(place, 0, from.size - 1) ? done(from.numbers[place]) : refuse(PLACE_OUTSIDE);
    }

    /** The row of 6 that the numbers go to is not made: only where it ends matters. */
    private int copyAsBytes(Sheet from, int n) {
        if (from == null || from.sort == MISSING) {
            return refuse(NOTHING_THERE);
        }
        if (from.sort != BYTES) {
            return refuse(OTHER_SORT);
        }
        if (n < 0 || 1 + n > from.size || n + n > 6) {
            return refuse(PLACE_OUTSIDE);
        }
        int sum = 0;
        for (int i = 1; i <= n; i++) {
            sum += from.numbers[i];
        }
        return done(sum);
    }

    private int putAmongPlanted(Crop crop) {
        if (crop == null) {
            return done(0);
        }
        return isOfKind(crop.kind, PLANTED) ? done(crop.kind) : refuse(DOES_NOT_FIT);
    }

    private static boolean isWithin(int value, int least, int most) {
        return value >= least && value <= most;
    }

    private static int lastOf(int rest) {
        return rest & 15;
    }

    private static int keepOf(int rest) {
        return rest >> 4 & 15;
    }

    private static int worthOf(int rest) {
        return rest >> 8;
    }

    /** Whether a kind is the wanted one or lies under it. */
    private static boolean isOfKind(int kind, int wanted) {
        int at = kind;
        for (int i = 0; i < KINDS && isWithin(at, 0, KINDS - 1); i++) {
            if (at == wanted) {
                return true;
            }
            at = ABOVE[at];
        }
        return false;
    }

    /** What is told of a crop; it never changes, so gardens share it. */
    private static final class Crop {
        final int number;
        final int kind;
        final int need;
        final int bears;
        final int last;
        final int keep;
        final int worth;

        Crop(int number, int kind, int need, int bears, int rest) {
            this.number = number;
            this.kind = kind;
            this.need = need;
            this.bears = bears;
            this.last = lastOf(rest);
            this.keep = keepOf(rest);
            this.worth = worthOf(rest);
        }
    }

    /** A bed and its sowing; without one its crop is null and the sowing's numbers are at rest. */
    private static final class Bed {
        Crop crop = null;
        int came = NONE;
        int heat = 0;
        int offered = 0;
        int ripe = 0;
        int rests = 0;
        int lastCrop = NONE;
        boolean fresh = false;
        boolean pickedNow = false;

        void copyFrom(Bed other) {
            crop = other.crop;
            came = other.came;
            heat = other.heat;
            offered = other.offered;
            ripe = other.ripe;
            rests = other.rests;
            lastCrop = other.lastCrop;
            fresh = other.fresh;
            pickedNow = other.pickedNow;
        }

        void begin(Crop sown, int week) {
            setSowing(sown, week);
            heat = isOfKind(sown.kind, PLANTED) ? sown.need / 2 : 0;
        }

        private void setSowing(Crop sown, int week) {
            crop = sown;
            came = week;
            heat = 0;
            offered = 0;
            ripe = 0;
            rests = 0;
        }

        void growBy(int warmth) {
            pickedNow = false;
            if (crop == null) {
                return;
            }
            heat += warmth;
            if (heat >= crop.need) {
                offerOf(crop);
            }
        }

        private void offerOf(Crop sown) {
            int bearing = fresh ? sown.bears + 1 : sown.bears;
            switch (sown.kind) {
                case CUT:
                    if (rests > 0) {
                        rests--;
                    } else if (ripe == 0) {
                        ripe = bearing;
                        offered++;
                    }
                    break;
                case STORED:
                    if (offered == 0) {
                        ripe = bearing * sown.last;
                    }
                    offered++;
                    break;
                case GAP:
                    offered++;
                    break;
                default:
                    ripe = bearing;
                    offered++;
                    break;
            }
        }

        /** What the hands left is lost, rests or waits, and the sowing may end: how many were lost. */
        int closeWeek() {
            if (crop == null) {
                return 0;
            }
            int losses = 0;
            if (crop.kind == SOWN || crop.kind == PLANTED) {
                losses = ripe;
                ripe = 0;
            }
            if (crop.kind == CUT && pickedNow && ripe == 0) {
                rests = 2;
            }
            if (isOver(crop)) {
                lastCrop = crop.number;
                fresh = crop.kind == GAP;
                setSowing(null, NONE);
            }
            return losses;
        }

        private boolean isOver(Crop sown) {
            switch (sown.kind) {
                case CUT: return offered >= sown.last && ripe == 0;
                case STORED: return offered > 0 && ripe == 0;
                default: return offered >= sown.last;
            }
        }
    }

    /** All lots in the order in which they came, so that the week of picking never falls along them. */
    private static final class Lots {
        int size = 0;
        final int[] crops = new int[LOTS_MOST];
        final int[] beds = new int[LOTS_MOST];
        final int[] sownIn = new int[LOTS_MOST];
        final int[] pickedIn = new int[LOTS_MOST];
        final int[] amounts = new int[LOTS_MOST];
        final int[] left = new int[LOTS_MOST];

        void copyFrom(Lots other) {
            size = other.size;
            System.arraycopy(other.crops, 0, crops, 0, size);
            System.arraycopy(other.beds, 0, beds, 0, size);
            System.arraycopy(other.sownIn, 0, sownIn, 0, size);
            System.arraycopy(other.pickedIn, 0, pickedIn, 0, size);
            System.arraycopy(other.amounts, 0, amounts, 0, size);
            System.arraycopy(other.left, 0, left, 0, size);
        }

        boolean hasRoom() {
            return size < LOTS_MOST;
        }

        int add(int crop, int bed, int sown, int picked, int amount) {
            if (size >= LOTS_MOST) {
                return NONE;
            }
            crops[size] = crop;
            beds[size] = bed;
            sownIn[size] = sown;
            pickedIn[size] = picked;
            amounts[size] = amount;
            left[size] = amount;
            size++;
            return size - 1;
        }

        /** Takes one of a crop from its oldest lot with something left: that lot. */
        int takeOne(int crop) {
            for (int i = 0; i < size; i++) {
                if (crops[i] == crop && left[i] > 0) {
                    left[i]--;
                    return i;
                }
            }
            return NONE;
        }
    }

    /** A house, what it got, and its box of the latest week. */
    private static final class House {
        int size = 0;
        int dislikes = 0;
        int weeksAway = 0;
        int got = 0;
        int holes = 0;
        int boxes = 0;
        boolean hasBox = false;
        final int[] hadIn = new int[CROPS_MOST];
        final int[] cropsIn = new int[PLACES_MOST];
        final int[] reasons = new int[PLACES_MOST];
        final int[] lotsIn = new int[PLACES_MOST];

        void moveIn(int size, int dislikes) {
            this.size = size;
            this.dislikes = dislikes;
            weeksAway = 0;
            got = 0;
            holes = 0;
            boxes = 0;
            hasBox = false;
            Arrays.fill(hadIn, NONE);
        }

        void copyFrom(House other) {
            size = other.size;
            dislikes = other.dislikes;
            weeksAway = other.weeksAway;
            got = other.got;
            holes = other.holes;
            boxes = other.boxes;
            hasBox = other.hasBox;
            System.arraycopy(other.hadIn, 0, hadIn, 0, CROPS_MOST);
            System.arraycopy(other.cropsIn, 0, cropsIn, 0, PLACES_MOST);
            System.arraycopy(other.reasons, 0, reasons, 0, PLACES_MOST);
            System.arraycopy(other.lotsIn, 0, lotsIn, 0, PLACES_MOST);
        }

        boolean isAway(int week) {
            return (weeksAway >> week & 1) != 0;
        }

        boolean dislikesCrop(int crop) {
            return (dislikes >> crop & 1) != 0;
        }

        int weeksSince(int crop, int week) {
            boolean never = crop < 0 || crop >= CROPS_MOST || hadIn[crop] == NONE;
            return never ? NEVER_HAD : week - hadIn[crop];
        }

        void fillPlace(int place, int crop, int reason, int lot) {
            if (isWithin(place, 0, PLACES_MOST - 1)) {
                cropsIn[place] = crop;
                reasons[place] = reason;
                lotsIn[place] = lot;
            }
        }
    }

    /** All that an image keeps, and how a week changes it. */
    private static final class Garden {
        final Crop[] crops = new Crop[CROPS_MOST];
        int cropCount = 0;
        final Bed[] beds = new Bed[BEDS];
        final House[] houses = new House[HOUSES_MOST];
        int houseCount = 0;
        final Lots lots = new Lots();
        Lines lines;
        final int[] warmths = new int[WEEKS];
        int week = 0;
        int hands = HANDS_AT_FIRST;
        final int[] stock = new int[CROPS_MOST];
        final int[] picked = new int[CROPS_MOST];
        final int[] lost = new int[CROPS_MOST];
        final int[] boxed = new int[CROPS_MOST];
        final int[] spoilt = new int[CROPS_MOST];
        final int[] sums = new int[SUMS];

        Garden(Lines noLines) {
            lines = noLines;
            for (int i = 0; i < beds.length; i++) {
                beds[i] = new Bed();
            }
            for (int i = 0; i < houses.length; i++) {
                houses[i] = new House();
            }
        }

        /** The sums stay out: each call that reads them clears them first. */
        void copyFrom(Garden other) {
            cropCount = other.cropCount;
            houseCount = other.houseCount;
            lines = other.lines;
            week = other.week;
            hands = other.hands;
            for (int i = 0; i < CROPS_MOST; i++) {
                crops[i] = other.crops[i];
            }
            for (int i = 0; i < BEDS; i++) {
                beds[i].copyFrom(other.beds[i]);
            }
            for (int i = 0; i < HOUSES_MOST; i++) {
                houses[i].copyFrom(other.houses[i]);
            }
            lots.copyFrom(other.lots);
            System.arraycopy(other.warmths, 0, warmths, 0, WEEKS);
            System.arraycopy(other.stock, 0, stock, 0, CROPS_MOST);
            System.arraycopy(other.picked, 0, picked, 0, CROPS_MOST);
            System.arraycopy(other.lost, 0, lost, 0, CROPS_MOST);
            System.arraycopy(other.boxed, 0, boxed, 0, CROPS_MOST);
            System.arraycopy(other.spoilt, 0, spoilt, 0, CROPS_MOST);
        }

        Crop cropAt(int number) {
            return isWithin(number, 0, cropCount - 1) ? crops[number] : null;
        }

        Bed bedAt(int number) {
            return isWithin(number, 0, BEDS - 1) ? beds[number] : null;
        }

        House houseAt(int number) {
            return isWithin(number, 0, houseCount - 1) ? houses[number] : null;
        }

        int addCrop(Crop crop) {
            if (cropCount >= CROPS_MOST) {
                return NONE;
            }
            crops[cropCount] = crop;
            cropCount++;
            return cropCount - 1;
        }

        int addHouse(int size, int dislikes) {
            if (houseCount >= HOUSES_MOST) {
                return NONE;
            }
            houses[houseCount].moveIn(size, dislikes);
            houseCount++;
            return houseCount - 1;
        }

        int addLot(Crop crop, int bed, int sownIn, int amount) {
            int lot = lots.add(crop.number, bed, sownIn, week, amount);
            if (lot != NONE) {
                stock[crop.number] += amount;
                picked[crop.number] += amount;
            }
            return lot;
        }

        int stockOf(int crop) {
            return crop >= 0 && crop < CROPS_MOST ? stock[crop] : 0;
        }

        int warmthOf(int w) {
            if (!isWithin(w, 0, WEEKS - 1)) {
                return 0;
            }
            if (warmths[w] != NO_NUMBER) {
                return warmths[w] / EIGHTHS;
            }
            int sum = 0;
            int parts = 0;
            if (w > 0 && warmths[w - 1] != NO_NUMBER) {
                sum += warmths[w - 1];
                parts += EIGHTHS;
            }
            if (w < WEEKS - 1 && warmths[w + 1] != NO_NUMBER) {
                sum += warmths[w + 1];
                parts += EIGHTHS;
            }
            return parts == 0 ? 0 : sum / parts;
        }

        int firstOffer(Bed bed) {
            if (bed.crop == null || bed.offered > 0) {
                return NONE;
            }
            int heat = bed.heat;
            for (int w = week; w < WEEKS; w++) {
                heat += warmthOf(w);
                if (heat >= bed.crop.need) {
                    return w;
                }
            }
            return NONE;
        }

        int greatestDifference() {
            int greatest = 0;
            for (int i = 0; i < houseCount; i++) {
                for (int j = 0; j < i; j++) {
                    if (houses[i].size == houses[j].size) {
                        greatest = Math.max(greatest, Math.abs(houses[i].got - houses[j].got));
                    }
                }
            }
            return greatest;
        }

        void clearSums() {
            Arrays.fill(sums, 0);
        }

        void doWeek() {
            int warmth = warmthOf(week);
            for (int i = 0; i < BEDS; i++) {
                beds[i].growBy(warmth);
            }
            pickRipe();
            closeBeds();
            fillBoxes();
            spoilLots();
            week++;
        }

        private void pickRipe() {
            int free = hands;
            for (int i = 0; i < BEDS && free > 0 && lots.hasRoom(); i++) {
                int number = nextToPick();
                if (number == NONE) {
                    break;
                }
                Bed bed = beds[number];
                int taken = Math.min(free, bed.ripe);
                addLot(bed.crop, number, bed.came, taken);
                bed.ripe -= taken;
                bed.pickedNow = true;
                free -= taken;
            }
        }

        /** A bed comes once a week only: what stays ripe on it stays for want of hands. */
        private int nextToPick() {
            int best = NONE;
            for (int i = 0; i < BEDS; i++) {
                boolean ready = beds[i].crop != null && beds[i].ripe > 0;
                if (ready && (best == NONE || isAhead(beds[i].crop, beds[best].crop))) {
                    best = i;
                }
            }
            return best;
        }

        private static boolean isAhead(Crop one, Crop other) {
            return one.keep != other.keep ? one.keep < other.keep : one.number < other.number;
        }

        private void closeBeds() {
            for (int i = 0; i < BEDS; i++) {
                Crop crop = beds[i].crop;
                if (crop != null) {
                    int losses = beds[i].closeWeek();
                    lost[crop.number] += losses;
                    sums[LOST] += losses;
                }
            }
        }

        private void fillBoxes() {
            for (int i = 0; i < houseCount; i++) {
                House house = houses[(week + i) % houseCount];
                house.hasBox = !house.isAway(week);
                if (house.hasBox) {
                    house.boxes++;
                    fillBox(house);
                }
            }
        }

        private void fillBox(House house) {
            for (int place = 0; place < house.size; place++) {
                int line = firstGiving(house);
                int crop = line != NONE ? lines.crops[line] : mostInStock(house, barredFor(house));
                if (crop == NONE) {
                    house.fillPlace(place, NONE, A_HOLE, NONE);
                    house.holes++;
                    sums[HOLES]++;
                } else {
                    int lot = handOver(house, crop);
                    house.fillPlace(place, crop, line != NONE ? line : BY_STOCK, lot);
                }
            }
        }

        private int firstGiving(House house) {
            for (int i = 0; i < lines.size; i++) {
                boolean gives = lines.verbs[i] == KEY_GIVE && isGood(house, lines.crops[i]);
                if (gives && lines.isMet(i, this, house)) {
                    return i;
                }
            }
            return NONE;
        }

        private int barredFor(House house) {
            int barred = 0;
            for (int i = 0; i < lines.size; i++) {
                if (lines.verbs[i] == KEY_BAR && lines.isMet(i, this, house)) {
                    barred |= 1 << lines.crops[i];
                }
            }
            return barred;
        }

        private int mostInStock(House house, int barred) {
            int best = NONE;
            for (int i = 0; i < cropCount; i++) {
                boolean free = (barred >> i & 1) == 0 && isGood(house, i);
                if (free && (best == NONE || stock[i] > stock[best])) {
                    best = i;
                }
            }
            return best;
        }

        /** A place of this week's box has the crop already just when the house had it 0 weeks ago. */
        private boolean isGood(House house, int crop) {
            return stockOf(crop) > 0 && !house.dislikesCrop(crop) && house.weeksSince(crop, week) != 0;
        }

        private int handOver(House house, int number) {
            Crop crop = cropAt(number);
            if (crop == null) {
                return NONE;
            }
            stock[number]--;
            boxed[number]++;
            house.hadIn[number] = week;
            house.got += crop.worth;
            sums[WORTH] += crop.worth;
            return lots.takeOne(number);
        }

        private void spoilLots() {
            for (int i = 0; i < lots.size; i++) {
                Crop crop = cropAt(lots.crops[i]);
                if (crop != null && week - lots.pickedIn[i] >= crop.keep) {
                    int left = lots.left[i];
                    lots.left[i] = 0;
                    stock[crop.number] -= left;
                    spoilt[crop.number] += left;
                    sums[SPOILT] += left;
                }
            }
        }
    }

    /** The tape's bytes. */
    private static final class Tape {
        final byte[] bytes = new byte[TAPE_MOST];
        int length = 0;

        void append(int n, long bits) {
            for (int i = 0; i < n && length < TAPE_MOST; i++) {
                bytes[length] = (byte) (bits >>> 8 * i);
                length++;
            }
        }

        /** What stands at a place, 0 .. 255; beyond the text -1. */
        int at(int place) {
            return place >= 0 && place < length ? bytes[place] & 255 : NONE;
        }

        boolean hasDigit(int place) {
            return isWithin(at(place), '0', '9');
        }

        boolean hasLetter(int place) {
            return isWithin(at(place), 'a', 'z');
        }
    }

    /** The tokens of a text, up to its end or to the first row of bytes that is none. */
    private static final class Tokens {
        int size = 0;
        final int[] kinds = new int[TAPE_MOST + 1];
        final int[] starts = new int[TAPE_MOST + 1];
        final int[] values = new int[TAPE_MOST + 1];

        void cutUp(Tape tape) {
            size = 0;
            int place = 0;
            for (int i = 0; i <= TAPE_MOST; i++) {
                place = skipBlanks(tape, place);
                place = addToken(tape, place);
                if (kinds[i] == TEXT_END || kinds[i] == WRONG) {
                    break;
                }
            }
        }

        int startOf(int token) {
            return isWithin(token, 0, size - 1) ? starts[token] : NONE;
        }

        int firstMissingCrop(int cropCount) {
            for (int i = 0; i < size; i++) {
                if (kinds[i] == CROP && values[i] >= cropCount) {
                    return starts[i];
                }
            }
            return NONE;
        }

        private static int skipBlanks(Tape tape, int from) {
            int place = from;
            while (place < tape.length && tape.at(place) == ' ') {
                place++;
            }
            return place;
        }

        /** Adds the token that begins at a place: the place behind it. */
        private int addToken(Tape tape, int start) {
            if (size >= kinds.length) {
                return start;
            }
            starts[size] = start;
            values[size] = 0;
            int end = start + 1;
            if (tape.hasLetter(start)) {
                end = readLetters(tape, start);
            } else if (tape.hasDigit(start)) {
                end = readDigits(tape, start);
            } else {
                kinds[size] = signOf(tape.at(start));
            }
            size++;
            return end;
        }

        private int readLetters(Tape tape, int start) {
            int end = start;
            while (end < tape.length && tape.hasLetter(end)) {
                end++;
            }
            if (end == start + 1 && tape.at(start) == 'c' && tape.hasDigit(end)) {
                kinds[size] = CROP;
                values[size] = tape.at(end) - '0';
                return end + 1;
            }
            kinds[size] = keyOf(tape, start, end);
            return end;
        }

        private int readDigits(Tape tape, int start) {
            int end = start;
            int value = 0;
            while (end < tape.length && tape.hasDigit(end)) {
                value = value * 10 + tape.at(end) - '0';
                end++;
            }
            kinds[size] = end - start > DIGITS_MOST ? WRONG : NUMBER;
            values[size] = value;
            return end;
        }

        private static int keyOf(Tape tape, int start, int end) {
            for (int key = KEY_GIVE; key <= KEY_SIZE; key++) {
                if (hasWord(tape, start, end, wordOf(key))) {
                    return key;
                }
            }
            return WRONG;
        }

        private static boolean hasWord(Tape tape, int start, int end, String word) {
            if (word.length() != end - start) {
                return false;
            }
            for (int i = 0; i < word.length(); i++) {
                if (word.charAt(i) != tape.at(start + i)) {
                    return false;
                }
            }
            return true;
        }

        private static String wordOf(int key) {
            switch (key) {
                case KEY_GIVE: return "give";
                case KEY_BAR: return "bar";
                case KEY_WHEN: return "when";
                case KEY_AND: return "and";
                case KEY_OR: return "or";
                case KEY_NOT: return "not";
                case KEY_STOCK: return "stock";
                case KEY_HAD: return "had";
                case KEY_WEEK: return "week";
                case KEY_SIZE: return "size";
                default: return "";
            }
        }

        private static int signOf(int letter) {
            switch (letter) {
                case NONE: return TEXT_END;
                case '<': return LESS;
                case '=': return EQUAL;
                case '(': return OPEN;
                case ')': return CLOSE;
                case ';': return LINE_END;
                default: return WRONG;
            }
        }
    }

    /**
     * Reads tokens by the grammar. It never steps over a token that can't stand where it is, so where it
     * stops is the fault. Conditions become steps in the order in which a stack of truths takes them.
     */
    private static final class LineReader {
        private Tokens tokens = null;
        private int at = 0;
        private int token = TEXT_END;
        private int value = 0;
        int faultKind = NO_FAULT;
        int faultPlace = NONE;
        int lineCount = 0;
        int stepCount = 0;
        final int[] verbs = new int[LINES_MOST];
        final int[] crops = new int[LINES_MOST];
        final int[] ends = new int[LINES_MOST];
        final int[] operators = new int[TAPE_MOST];
        final int[] subjects = new int[TAPE_MOST];
        final int[] subjectCrops = new int[TAPE_MOST];
        final int[] limits = new int[TAPE_MOST];

        void readAll(Tokens text, int cropCount) {
            tokens = text;
            lineCount = 0;
            stepCount = 0;
            at = 0;
            token = text.size > 0 ? text.kinds[0] : TEXT_END;
            value = 0;
            boolean fits = true;
            for (int i = 0; i < LINES_MOST && fits && token != TEXT_END; i++) {
                fits = readLine(i);
            }
            if (!fits || token != TEXT_END) {
                faultKind = FAULT_IN_FORM;
                faultPlace = text.startOf(at);
            } else {
                faultPlace = text.firstMissingCrop(cropCount);
                faultKind = faultPlace == NONE ? NO_FAULT : FAULT_IN_CROP;
            }
        }

        private boolean accept(int kind) {
            if (token != kind || tokens == null) {
                return false;
            }
            at++;
            boolean isThere = at < tokens.size;
            token = isThere ? tokens.kinds[at] : TEXT_END;
            value = isThere ? tokens.values[at] : 0;
            return true;
        }

        private boolean readLine(int line) {
            verbs[line] = token;
            if (!accept(KEY_GIVE) && !accept(KEY_BAR)) {
                return false;
            }
            crops[line] = value;
            if (!accept(CROP)) {
                return false;
            }
            if (accept(KEY_WHEN) && !readOr(0)) {
                return false;
            }
            ends[line] = stepCount;
            lineCount = line + 1;
            return accept(LINE_END);
        }

        private boolean readOr(int nested) {
            boolean fits = readAnd(nested);
            for (int i = 0; i < TAPE_MOST && fits && accept(KEY_OR); i++) {
                fits = readAnd(nested) && addStep(KEY_OR, 0, 0, 0);
            }
            return fits;
        }

        private boolean readAnd(int nested) {
            boolean fits = readNot(nested);
            for (int i = 0; i < TAPE_MOST && fits && accept(KEY_AND); i++) {
                fits = readNot(nested) && addStep(KEY_AND, 0, 0, 0);
            }
            return fits;
        }

        private boolean readNot(int nested) {
            if (nested >= NESTED_MOST) {
                return false;
            }
            if (accept(KEY_NOT)) {
                return readNot(nested + 1) && addStep(KEY_NOT, 0, 0, 0);
            }
            if (accept(OPEN)) {
                return readOr(nested + 1) && accept(CLOSE);
            }
            return readTest();
        }

        private boolean readTest() {
            int subject = token;
            int crop = 0;
            if (accept(KEY_STOCK) || accept(KEY_HAD)) {
                crop = value;
                if (!accept(CROP)) {
                    return false;
                }
            } else if (!accept(KEY_WEEK) && !accept(KEY_SIZE)) {
                return false;
            }
            int sign = token;
            if (!accept(LESS) && !accept(EQUAL)) {
                return false;
            }
            int limit = value;
            return accept(NUMBER) && addStep(sign, subject, crop, limit);
        }

        /** Each step has a token of its own, so there are never more than the tape has bytes. */
        private boolean addStep(int operator, int subject, int crop, int limit) {
            if (stepCount >= TAPE_MOST) {
                return false;
            }
            operators[stepCount] = operator;
            subjects[stepCount] = subject;
            subjectCrops[stepCount] = crop;
            limits[stepCount] = limit;
            stepCount++;
            return true;
        }
    }

    /** The lines as told; they never change once made, so gardens share them. */
    private static final class Lines {
        final int size;
        final int[] verbs;
        final int[] crops;
        private final int[] ends;
        private final int[] operators;
        private final int[] subjects;
        private final int[] subjectCrops;
        private final int[] limits;

        Lines(LineReader reader) {
            size = reader.lineCount;
            verbs = Arrays.copyOf(reader.verbs, size);
            crops = Arrays.copyOf(reader.crops, size);
            ends = Arrays.copyOf(reader.ends, size);
            operators = Arrays.copyOf(reader.operators, reader.stepCount);
            subjects = Arrays.copyOf(reader.subjects, reader.stepCount);
            subjectCrops = Arrays.copyOf(reader.subjectCrops, reader.stepCount);
            limits = Arrays.copyOf(reader.limits, reader.stepCount);
        }

        /** The truths stand as bits of one number, the latest lowest; a line without steps leaves the first. */
        boolean isMet(int line, Garden garden, House house) {
            if (!isWithin(line, 0, size - 1)) {
                return false;
            }
            long truths = 1;
            for (int i = line == 0 ? 0 : ends[line - 1]; i < ends[line]; i++) {
                long latest = truths & 1;
                switch (operators[i]) {
                    case KEY_NOT:
                        truths ^= 1;
                        break;
                    case KEY_AND:
                        truths = truths >>> 1 & (latest | ~1L);
                        break;
                    case KEY_OR:
                        truths = truths >>> 1 | latest;
                        break;
                    case LESS:
                        truths = truths << 1 | (valueFor(i, garden, house) < limits[i] ? 1 : 0);
                        break;
                    default:
                        truths = truths << 1 | (valueFor(i, garden, house) == limits[i] ? 1 : 0);
                        break;
                }
            }
            return (truths & 1) != 0;
        }

        private int valueFor(int step, Garden garden, House house) {
            switch (subjects[step]) {
                case KEY_STOCK: return garden.stockOf(subjectCrops[step]);
                case KEY_HAD: return house.weeksSince(subjectCrops[step], garden.week);
                case KEY_WEEK: return garden.week;
                default: return house.size;
            }
        }
    }

    /** Runs the bodies of acts and keeps the trace of the latest act. */
    private static final class Performer {
        final int[] bodies = new int[TRACE_MOST];
        int traceSize = 0;

        int start(Crop crop, int act, int x) {
            traceSize = 0;
            return perform(crop, crop.kind, act, x, 0);
        }

        /** Runs the body of an act that the kind, or the next one above it, has. */
        private int perform(Crop crop, int kind, int act, int x, int depth) {
            int at = kindWithBody(kind, act);
            if (at == NONE || depth > ACT_DEPTH_MOST) {
                return 0;
            }
            int body = BODIES[at * ACTS + act];
            note(body);
            int own = crop.kind;
            int above = ABOVE[at];
            int next = depth + 1;
            switch (body) {
                case 10: return x + crop.bears;
                case 11: return perform(crop, own, GROW, x, next) * 2;
                case 12: return x - crop.keep;
                case 13: return perform(crop, own, GIVE, x, next) ^ perform(crop, own, KEEP, x, next);
                case 20: return perform(crop, above, GROW, x, next) + crop.number;
                case 21: return perform(crop, above, TELL, x + 1, next);
                case 30: return perform(crop, above, GIVE, x, next) - perform(crop, own, GROW, x, next);
                case 40: return perform(crop, above, KEEP, x, next) * 3;
                case 41: return perform(crop, above, GIVE, x + crop.keep, next);
                case 50: return perform(crop, own, KEEP, x, next) - perform(crop, above, TELL, x, next);
                case 60: return perform(crop, above, GROW, x, next) ^ 5;
                case 61: return perform(crop, above, KEEP, x - 1, next);
                default: return 0;
            }
        }

        private static int kindWithBody(int kind, int act) {
            int at = kind;
            for (int i = 0; i < KINDS && isWithin(at, 0, KINDS - 1); i++) {
                if (BODIES[at * ACTS + act] != 0) {
                    return at;
                }
                at = ABOVE[at];
            }
            return NONE;
        }

        private void note(int body) {
            if (traceSize < TRACE_MOST) {
                bodies[traceSize] = body;
                traceSize++;
            }
        }
    }

    /** A row of numbers of a sort, or missing; floats stand as eighths, or as no number. */
    private static final class Sheet {
        int sort = MISSING;
        int size = 0;
        final int[] numbers = new int[SHEET_MOST];

        void lay(int sort, int size) {
            this.sort = sort;
            this.size = size;
            Arrays.fill(numbers, 0);
        }

        boolean holdsWarmths() {
            for (int i = 0; i < size; i++) {
                if (numbers[i] != NO_NUMBER && !isWithin(numbers[i], 0, WARMTH_MOST)) {
                    return false;
                }
            }
            return true;
        }
    }
}
