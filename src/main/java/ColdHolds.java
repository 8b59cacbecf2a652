import java.util.Arrays;

/** Cold meat from the far side; ../shared/DOC.md says what each call answers. */
public final class ColdHolds {
    public static final int NONE = -1, UNKNOWN = -101, OUTSIDE = -102, STATE = -103, FULL = -104;

    // Calls whose numbers reach below -101 answer refusals of their own.
    private static final int NO_CELL = -1001, NO_SUCH_NUMBER = -1002, NO_SUCH_PLAN = -10002;
    private static final int APART = -1000;
    private static final long NO_LINE = -1L, NO_SET = -2L;

    private static final int CELLS = 12, ROW = 4, MOST_LOTS = 20;
    private static final int COLDEST = -300, HOTTEST = 600;
    private static final int MOST_HOURS = 1200;
    private static final int ON = 0, BACK = 1;

    private final Hold hold = new Hold();
    private final Air air = new Air();
    private final Air trial = new Air();
    private final Lots lots = new Lots();
    private final Texts texts = new Texts();
    private final Readings readings = new Readings();
    private final Stacks stacks = new Stacks();
    private final Drive drive = new Drive();
    private final Market market = new Market();
    private final Farms farms = new Farms();
    private final Ring ring = new Ring();
    private final Choices choices = new Choices();

    public ColdHolds() {
    }

    private static boolean within(int v, int least, int most) {
        return least <= v && v <= most;
    }

    private static boolean isCell(int cell) {
        return within(cell, 0, CELLS - 1);
    }

    private static boolean isWarmth(int v) {
        return within(v, COLDEST, HOTTEST);
    }

    private static int change(int[] row, int at, int v) {
        int was = row[at];
        row[at] = v;
        return was;
    }

    private static long mix(long h, long v) {
        return 31L * h + v;
    }

    private static long mixRow(long h, int[] row, int many) {
        for (int i = 0; i < many; i++) {
            h = mix(h, row[i]);
        }
        return h;
    }

    // ---- the hold

    public int leg(int hours, int sea) {
        if (!within(hours, 1, 200) || !within(sea, -50, 400)) {
            return OUTSIDE;
        }
        if (hold.gone > 0) {
            return STATE;
        }
        return hold.addLeg(hours, sea);
    }

    public int warm(int cell, int v) {
        if (!isCell(cell)) {
            return NO_CELL;
        }
        if (!isWarmth(v)) {
            return NO_SUCH_NUMBER;
        }
        return change(air.warmth, cell, v);
    }

    public int warmth(int cell) {
        return isCell(cell) ? air.warmth[cell] : NO_CELL;
    }

    public int outer(int cell, int v) {
        if (!isCell(cell)) {
            return UNKNOWN;
        }
        if (!within(v, 0, 20)) {
            return OUTSIDE;
        }
        return change(hold.outer, cell, v);
    }

    public int pipe(int cell, boolean is) {
        if (!isCell(cell)) {
            return UNKNOWN;
        }
        return change(hold.pipe, cell, is ? 1 : 0);
    }

    public int engine(int which, int v) {
        if (!within(which, 0, 3)) {
            return UNKNOWN;
        }
        if (!within(v, Hold.LEAST_SET[which], Hold.MOST_SET[which])) {
            return OUTSIDE;
        }
        if (which == Hold.COAL) {
            int had = air.coal;
            air.coal = v;
            return had;
        }
        return change(hold.set, which, v);
    }

    public int breaks(int in) {
        if (in != NONE && !within(in, 0, MOST_HOURS)) {
            return OUTSIDE;
        }
        hold.brokenFrom = in == NONE ? Hold.NEVER : hold.gone + in;
        return 1;
    }

    public int sea(int hour) {
        return within(hour, 0, 9999) ? hold.seaOf(hour) : NO_SUCH_NUMBER;
    }

    public int hours(int n) {
        if (!within(n, 1, 300)) {
            return OUTSIDE;
        }
        if (hold.gone + n > MOST_HOURS) {
            return STATE;
        }
        int ran = 0;
        for (int i = 0; i < n; i++) {
            int hour = hold.gone;
            if (air.pass(hold, hold.seaOf(hour), hour < hold.brokenFrom)) {
                ran++;
            }
            lots.spoilIn(air);
            lots.noteStates(air, hour);
            hold.gone++;
        }
        return ran;
    }

    public int first(int limit, int n) {
        if (!isWarmth(limit) || !within(n, 0, 300)) {
            return OUTSIDE;
        }
        trial.takeFrom(air);
        int cell = trial.firstAbove(limit);
        int passed = 0;
        while (cell == NONE && passed < n) {
            int hour = hold.gone + passed;
            trial.pass(hold, hold.seaOf(hour), hour < hold.brokenFrom);
            passed++;
            cell = trial.firstAbove(limit);
        }
        return cell == NONE ? NONE : 1000 * passed + cell;
    }

    // ---- lots

    public int lot(int kind, int cell) {
        if (!isCell(cell)) {
            return UNKNOWN;
        }
        if (!Lots.isKind(kind)) {
            return OUTSIDE;
        }
        return lots.add(kind, cell, hold.gone);
    }

    public int lay(int lot, int cell) {
        if (!lots.isOne(lot) || !isCell(cell)) {
            return UNKNOWN;
        }
        return change(lots.cell, lot, cell);
    }

    public int about(int lot, int what) {
        if (!lots.isOne(lot)) {
            return UNKNOWN;
        }
        if (!within(what, 0, 8)) {
            return OUTSIDE;
        }
        return lots.tell(lot, what, air, hold.gone);
    }

    public int as(int lot, int kind) {
        if (!lots.isOne(lot)) {
            return UNKNOWN;
        }
        if (!Lots.isKind(kind)) {
            return OUTSIDE;
        }
        return Lots.isSuch(lots.kind[lot], kind) ? lot : NONE;
    }

    // ---- texts

    public int letters(long w) {
        int come = Texts.lettersIn(w);
        if (come < 0) {
            return OUTSIDE;
        }
        return texts.append(w, come);
    }

    public int blank() {
        int had = texts.letters;
        texts.letters = 0;
        return had;
    }

    public int fault() {
        return texts.scan();
    }

    public int text() {
        return texts.isWhole() ? texts.keepPage() : STATE;
    }

    public int says(int letter, int lot) {
        if (!within(letter, 0, 2) || !lots.isOne(lot)) {
            return UNKNOWN;
        }
        int text = texts.lastOf(letter);
        if (text == NONE) {
            return NONE;
        }
        return texts.holds(text, sumOf(text, lot, 0), sumOf(text, lot, 1)) ? 1 : 0;
    }

    public long sum(int text, int lot, int side) {
        if (!within(text, 0, texts.many - 1) || !lots.isOne(lot) || !within(side, 0, 1)) {
            return 0L;
        }
        return sumOf(text, lot, side);
    }

    private long sumOf(int text, int lot, int side) {
        texts.rot = air.rot[lot];
        texts.warmth = air.warmth[lots.cell[lot]];
        texts.since = hold.gone - lots.laidAt[lot];
        texts.kind = lots.kind[lot];
        return texts.valueOf(text, side);
    }

    // ---- if it breaks

    public int lost(int in, int way) {
        if (!within(in, 0, 300) || !within(way, ON, BACK)) {
            return OUTSIDE;
        }
        return lostGoing(in, way);
    }

    public int way(int in) {
        if (!within(in, 0, 300)) {
            return OUTSIDE;
        }
        return lostGoing(in, BACK) < lostGoing(in, ON) ? BACK : ON;
    }

    private int lostGoing(int in, int way) {
        trial.takeFrom(air);
        int turn = hold.gone + in;
        int broken = Math.min(hold.brokenFrom, turn);
        int end = way == BACK ? turn : hold.allHours();
        for (int hour = hold.gone; hour < end; hour++) {
            trial.pass(hold, hold.seaOf(hour), hour < broken);
            lots.spoilIn(trial);
        }
        if (way == BACK) {
            for (int hour = turn - 1; hour >= 0; hour--) {
                trial.pass(hold, hold.seaOf(hour), false);
                lots.spoilIn(trial);
            }
        }
        return lots.lostIn(trial);
    }

    // ---- readings

    public int reading(int hour, int v) {
        if (!within(hour, 0, MOST_HOURS) || !(isWarmth(v) || v == Readings.UNREAD)) {
            return OUTSIDE;
        }
        return readings.add(hour, v);
    }

    public int rate(int v) {
        if (!within(v, 1, 50)) {
            return OUTSIDE;
        }
        int was = readings.rate;
        readings.rate = v;
        return was;
    }

    public int could(int hour, int side) {
        if (!within(hour, 0, MOST_HOURS) || !within(side, 0, 1)) {
            return NO_SUCH_NUMBER;
        }
        if (!readings.agree()) {
            return APART;
        }
        return side == 0 ? readings.least(hour) : readings.greatest(hour);
    }

    public int was(int from, int to, int limit) {
        if (from < 0 || to < from || to > MOST_HOURS || !isWarmth(limit)) {
            return OUTSIDE;
        }
        return readings.agree() ? readings.above(from, to, limit) : NONE;
    }

    // ---- laying, driving

    public int arrive(int day) {
        return within(day, 0, 99) ? stacks.add(day) : OUTSIDE;
    }

    public int laid(int stacks, int high, int what) {
        if (!within(stacks, 1, Stacks.MOST_STACKS) || !within(high, 1, 8)) {
            return OUTSIDE;
        }
        if (what != 0 && !within(what, 10, 17)) {
            return OUTSIDE;
        }
        if (!this.stacks.layBest(stacks, high)) {
            return NONE;
        }
        return what == 0 ? this.stacks.fewest : this.stacks.stackOf(what - 10);
    }

    public int flock(int sheep, int fat) {
        if (!within(sheep, 1, 999) || !within(fat, 1, 99)) {
            return OUTSIDE;
        }
        return drive.add(sheep, fat);
    }

    public int works(int works, int v) {
        if (!within(works, 0, Drive.WORKS - 1)) {
            return UNKNOWN;
        }
        if (!within(v, 0, 9999)) {
            return OUTSIDE;
        }
        return change(drive.takes, works, v);
    }

    public int days(int flock, int works, int v) {
        if (!within(flock, 0, drive.many - 1) || !within(works, 0, Drive.WORKS - 1)) {
            return UNKNOWN;
        }
        if (!within(v, 0, 60)) {
            return OUTSIDE;
        }
        return change(drive.away[flock], works, v);
    }

    public int loss(int v) {
        if (!within(v, 0, 9)) {
            return OUTSIDE;
        }
        int was = drive.aDay;
        drive.aDay = v;
        return was;
    }

    public int driven(int what) {
        if (what != 0 && !within(what, 10, 15)) {
            return OUTSIDE;
        }
        drive.driveBest();
        return what == 0 ? drive.most : drive.goesOf(what - 10);
    }

    // ---- the market

    public int market(int which, int v) {
        if (!within(which, 0, 3)) {
            return UNKNOWN;
        }
        if (!within(v, Market.LEAST_SET[which], Market.MOST_SET[which])) {
            return OUTSIDE;
        }
        return change(market.set, which, v);
    }

    public int seller(int lots, int limit) {
        if (!within(lots, 1, 99) || !within(limit, 0, 999)) {
            return OUTSIDE;
        }
        return market.add(lots, limit);
    }

    public int week(int week, int what) {
        if (!within(week, 0, Market.WEEKS - 1) || !within(what, 0, 3)) {
            return OUTSIDE;
        }
        market.run();
        return market.tell(week, what);
    }

    public int turns(int what) {
        if (!within(what, 0, 1)) {
            return OUTSIDE;
        }
        market.run();
        return market.turn(what);
    }

    // ---- farms

    public int farm(int gain, int own) {
        if (!within(gain, 0, 9) || !within(own, -9999, 9999)) {
            return OUTSIDE;
        }
        return farms.add(gain, own);
    }

    public int owe(int a, int b, int v) {
        if (!farms.isOne(a) || !farms.isOne(b) || a == b) {
            return UNKNOWN;
        }
        if (!within(v, 0, 999)) {
            return OUTSIDE;
        }
        return change(farms.owes[a], b, v);
    }

    public int falls(int price, int what) {
        if (!within(price, 0, Farms.DEAREST) || !within(what, 0, 1)) {
            return OUTSIDE;
        }
        int fallen = farms.fallenAt(price);
        return what == 0 ? fallen : farms.rounds;
    }

    public int safe(int farm) {
        if (farm == NONE) {
            return farms.leastPrice(Farms.ALL);
        }
        return farms.isOne(farm) ? farms.leastPrice(1 << farm) : UNKNOWN;
    }

    // ---- the ring, the plan

    public int line(int ships, int cost) {
        if (!within(ships, 1, 99) || !within(cost, 0, 999)) {
            return OUTSIDE;
        }
        return ring.add(ships, cost);
    }

    public int ring(int which, int v) {
        if (!within(which, 0, 3)) {
            return UNKNOWN;
        }
        if (!within(v, 0, Ring.MOST_SET[which])) {
            return OUTSIDE;
        }
        return change(ring.set, which, v);
    }

    public long earns(int line, int set) {
        if (!within(line, 0, ring.many - 1)) {
            return NO_LINE;
        }
        if (!within(set, 0, ring.allSets() - 1)) {
            return NO_SET;
        }
        return ring.earned(line, set);
    }

    public int stable(int what) {
        if (!within(what, 0, 1)) {
            return OUTSIDE;
        }
        return what == 0 ? ring.howManyHold() : ring.greatestThatHolds();
    }

    public int choice(int cost) {
        return within(cost, 0, 9999) ? choices.add(cost) : OUTSIDE;
    }

    public int gives(int choice, int year, int v) {
        if (!within(choice, 0, choices.many - 1) || !within(year, 0, Choices.YEARS - 1)) {
            return UNKNOWN;
        }
        if (!within(v, -999, 999)) {
            return NO_SUCH_NUMBER;
        }
        return change(choices.yields[choice], year, v);
    }

    public int plan(int coin, int n, int what) {
        if (!within(coin, 0, 99999) || !within(n, 1, Choices.YEARS) || !within(what, 0, 2)) {
            return NO_SUCH_PLAN;
        }
        int set = choices.bestFor(coin, n);
        switch (what) {
            case 0:
                return set;
            case 1:
                return choices.worstOf(set, n);
            default:
                return choices.costOf(set);
        }
    }

    // ---- what is told

    public int count(int what) {
        return within(what, 0, 12) ? howMany(what) : OUTSIDE;
    }

    private int howMany(int what) {
        switch (what) {
            case 0:
                return hold.legs;
            case 1:
                return hold.gone;
            case 2:
                return air.coal;
            case 3:
                return lots.many;
            case 4:
                return texts.many;
            case 5:
                return readings.many;
            case 6:
                return stacks.many;
            case 7:
                return drive.many;
            case 8:
                return market.many;
            case 9:
                return farms.many;
            case 10:
                return ring.many;
            case 11:
                return choices.many;
            default:
                return texts.letters;
        }
    }

    public long digest() {
        long h = hold.mixed(257L, air.warmth);
        h = mixLots(h);
        h = mixSums(h);
        h = readings.mixed(h);
        h = mixRow(h, stacks.day, stacks.many);
        h = drive.mixed(h);
        h = market.mixed(h);
        h = farms.mixed(h);
        h = ring.mixed(h);
        h = choices.mixed(h);
        h = mixRow(h, texts.page, texts.letters);
        for (int what = 0; what <= 12; what++) {
            h = mix(h, howMany(what));
        }
        return h;
    }

    private long mixLots(long h) {
        for (int lot = 0; lot < lots.many; lot++) {
            for (int what = 0; what <= 8; what++) {
                h = mix(h, lots.tell(lot, what, air, hold.gone));
            }
        }
        return h;
    }

    private long mixSums(long h) {
        for (int text = 0; text < texts.many; text++) {
            for (int lot = 0; lot < lots.many; lot++) {
                h = mix(h, sumOf(text, lot, 0));
                h = mix(h, sumOf(text, lot, 1));
            }
        }
        return h;
    }

    /** How the ship is built and what she sails through. */
    private static final class Hold {
        static final int LEAK = 0, COLD = 1, BURN = 2, COAL = 3;
        static final int[] LEAST_SET = {0, 0, 1, 0};
        static final int[] MOST_SET = {20, 60, 9, 9999};
        // Above every HOUR that a trial can come to.
        static final int NEVER = 1000000;
        private static final int MOST_LEGS = 6, SEA_WITHOUT_LEGS = 150;

        final int[] outer = new int[CELLS];
        final int[] pipe = new int[CELLS];
        final int[] set = {5, 20, 1};
        int legs;
        int gone;
        int brokenFrom = NEVER;
        private final int[] legHours = new int[MOST_LEGS];
        private final int[] legSea = new int[MOST_LEGS];

        Hold() {
            Arrays.fill(outer, 4);
            pipe[0] = 1;
        }

        int addLeg(int hours, int sea) {
            if (legs >= MOST_LEGS) {
                return FULL;
            }
            legHours[legs] = hours;
            legSea[legs] = sea;
            legs++;
            return legs;
        }

        int allHours() {
            int all = 0;
            for (int leg = 0; leg < legs; leg++) {
                all += legHours[leg];
            }
            return all;
        }

        int seaOf(int hour) {
            int sea = SEA_WITHOUT_LEGS;
            int end = 0;
            for (int leg = 0; leg < legs; leg++) {
                sea = legSea[leg];
                end += legHours[leg];
                if (hour < end) {
                    return sea;
                }
            }
            return sea;
        }

        int nextWarmth(int[] warmth, int cell, int sea, boolean runs) {
            int flow = set[LEAK] * pull(warmth, cell) + outer[cell] * (sea - warmth[cell]);
            int next = warmth[cell] + Math.floorDiv(flow, 100);
            if (runs && pipe[cell] == 1) {
                next -= set[COLD];
            }
            return Math.max(next, COLDEST);
        }

        private static int pull(int[] warmth, int cell) {
            int own = warmth[cell];
            int sum = 0;
            if (cell >= ROW) {
                sum += warmth[cell - ROW] - own;
            }
            if (cell < CELLS - ROW) {
                sum += warmth[cell + ROW] - own;
            }
            if (cell % ROW > 0) {
                sum += warmth[cell - 1] - own;
            }
            if (cell % ROW < ROW - 1) {
                sum += warmth[cell + 1] - own;
            }
            return sum;
        }

        long mixed(long h, int[] warmth) {
            for (int cell = 0; cell < CELLS; cell++) {
                h = mix(h, warmth[cell]);
                h = mix(h, outer[cell]);
                h = mix(h, pipe[cell]);
            }
            h = mixRow(h, set, COAL);
            for (int hour = 0; hour <= MOST_HOURS; hour += 100) {
                h = mix(h, seaOf(hour));
            }
            return h;
        }
    }

    /** What changes as HOURS go by: apart from the rest, so that HOURS can be tried out on a copy. */
    private static final class Air {
        final int[] warmth = new int[CELLS];
        final int[] rot = new int[MOST_LOTS];
        int coal;
        private final int[] next = new int[CELLS];

        Air() {
            Arrays.fill(warmth, 100);
        }

        void takeFrom(Air other) {
            System.arraycopy(other.warmth, 0, warmth, 0, CELLS);
            System.arraycopy(other.rot, 0, rot, 0, MOST_LOTS);
            coal = other.coal;
        }

        boolean pass(Hold hold, int sea, boolean sound) {
            int burn = hold.set[Hold.BURN];
            boolean runs = sound && coal >= burn;
            if (runs) {
                coal -= burn;
            }
            for (int cell = 0; cell < CELLS; cell++) {
                next[cell] = hold.nextWarmth(warmth, cell, sea, runs);
            }
            System.arraycopy(next, 0, warmth, 0, CELLS);
            return runs;
        }

        int firstAbove(int limit) {
            for (int cell = 0; cell < CELLS; cell++) {
                if (warmth[cell] > limit) {
                    return cell;
                }
            }
            return NONE;
        }
    }

    private static final class Lots {
        private static final int GOOD = 0, CARCASS = 1, MUTTON = 2, LAMB = 3, TALLOW = 4, BUTTER = 5;

        final int[] kind = new int[MOST_LOTS];
        final int[] cell = new int[MOST_LOTS];
        final int[] laidAt = new int[MOST_LOTS];
        int many;
        private final int[][] came = new int[MOST_LOTS][3];

        static boolean isKind(int kind) {
            return within(kind, GOOD, BUTTER);
        }

        static boolean isSuch(int kind, int as) {
            if (as == CARCASS) {
                return kind == CARCASS || kind == MUTTON || kind == LAMB;
            }
            return as == GOOD || as == kind;
        }

        boolean isOne(int lot) {
            return within(lot, 0, many - 1);
        }

        int add(int itsKind, int itsCell, int hour) {
            if (many >= MOST_LOTS) {
                return FULL;
            }
            kind[many] = itsKind;
            cell[many] = itsCell;
            laidAt[many] = hour;
            Arrays.fill(came[many], NONE);
            many++;
            return many - 1;
        }

        void spoilIn(Air air) {
            for (int lot = 0; lot < many; lot++) {
                air.rot[lot] += spoils(kind[lot], air.warmth[cell[lot]]);
            }
        }

        void noteStates(Air air, int hour) {
            for (int lot = 0; lot < many; lot++) {
                int state = stateFrom(air.rot[lot]);
                for (int s = 0; s < state; s++) {
                    if (came[lot][s] == NONE) {
                        came[lot][s] = hour;
                    }
                }
            }
        }

        int lostIn(Air air) {
            int lost = 0;
            for (int lot = 0; lot < many; lot++) {
                if (stateFrom(air.rot[lot]) == 3) {
                    lost++;
                }
            }
            return lost;
        }

        int tell(int lot, int what, Air air, int now) {
            switch (what) {
                case 0:
                    return kind[lot];
                case 1:
                    return cell[lot];
                case 2:
                    return air.rot[lot];
                case 3:
                    return stateFrom(air.rot[lot]);
                case 4:
                    return now - laidAt[lot];
                case 5:
                    return worth(kind[lot]) * (100 - 25 * stateFrom(air.rot[lot]));
                case 6:
                    return came[lot][0];
                case 7:
                    return came[lot][1];
                default:
                    return came[lot][2];
            }
        }

        private static int stateFrom(int rot) {
            if (rot >= 600) {
                return 3;
            }
            if (rot >= 300) {
                return 2;
            }
            return rot >= 100 ? 1 : 0;
        }

        private static int spoils(int kind, int w) {
            switch (kind) {
                case CARCASS:
                case MUTTON:
                    return carcassSpoils(w);
                case LAMB:
                    return carcassSpoils(w) == 0 ? 0 : 2 * carcassSpoils(w) + 1;
                case BUTTER:
                    return w > 100 ? 1 : 0;
                default:
                    return 0;
            }
        }

        private static int carcassSpoils(int w) {
            return Math.max(0, Math.floorDiv(w + 50, 10));
        }

        private static int worth(int kind) {
            int good = 10;
            int carcass = good + 20;
            switch (kind) {
                case CARCASS:
                    return carcass;
                case MUTTON:
                    return carcass + 5;
                case LAMB:
                    return 2 * carcass;
                case TALLOW:
                    return 2 * good - 10;
                case BUTTER:
                    return 3 * good;
                default:
                    return good;
            }
        }
    }

    private static final class Texts {
        private static final int MOST_TEXTS = 12, MOST_LETTERS = 60;
        // What a reader waits for; BEHIND and d: behind a FACTOR to which d more digits may come.
        private static final int NOTHING = -1, HEAD = 0, COLON = 1, FACTOR = 2, BEHIND = 3;

        final int[] page = new int[MOST_LETTERS];
        int letters;
        int many;
        int rot, warmth, since, kind;
        private final int[][] rows = new int[MOST_TEXTS][MOST_LETTERS];
        private final int[] length = new int[MOST_TEXTS];
        private final int[] sign = new int[MOST_TEXTS];
        private final long[] sums = new long[MOST_LETTERS];
        private final long[] products = new long[MOST_LETTERS];
        private int awaits, depth, signAt;

        /** How many letters w tells; NONE: it tells none as it should. */
        static int lettersIn(long w) {
            int come = 0;
            boolean ended = false;
            for (int i = 0; i < 8; i++) {
                int code = code(w, i);
                if (code > 126 || (ended && code != 0)) {
                    return NONE;
                }
                if (code == 0) {
                    ended = true;
                } else {
                    come++;
                }
            }
            return come;
        }

        private static int code(long w, int i) {
            return (int) (w >>> (8 * i)) & 255;
        }

        int append(long w, int come) {
            if (letters + come > MOST_LETTERS) {
                return FULL;
            }
            for (int i = 0; i < come; i++) {
                page[letters] = code(w, i);
                letters++;
            }
            return letters;
        }

        int scan() {
            awaits = HEAD;
            depth = 0;
            signAt = NONE;
            for (int place = 0; place < letters; place++) {
                awaits = after(page[place], place);
                if (awaits == NOTHING) {
                    return place;
                }
            }
            return letters;
        }

        private int after(int letter, int place) {
            switch (awaits) {
                case HEAD:
                    return letterNumber(letter) == NONE ? NOTHING : COLON;
                case COLON:
                    return letter == ':' ? FACTOR : NOTHING;
                case FACTOR:
                    return intoFactor(letter);
                default:
                    return behindFactor(letter, place);
            }
        }

        private int intoFactor(int letter) {
            if (isDigit(letter)) {
                return BEHIND + 2;
            }
            if (letter == '(') {
                depth++;
                return FACTOR;
            }
            return letter == 'r' || letter == 't' || letter == 'h' || letter == 'k' ? BEHIND : NOTHING;
        }

        private int behindFactor(int letter, int place) {
            if (isDigit(letter)) {
                return awaits > BEHIND ? awaits - 1 : NOTHING;
            }
            if (letter == '+' || letter == '-' || letter == '*') {
                return FACTOR;
            }
            if (letter == ')' && depth > 0) {
                depth--;
                return BEHIND;
            }
            if ((letter == '<' || letter == '=' || letter == '>') && depth == 0 && signAt == NONE) {
                signAt = place;
                return FACTOR;
            }
            return NOTHING;
        }

        private static boolean isDigit(int letter) {
            return within(letter, '0', '9');
        }

        private static int letterNumber(int letter) {
            switch (letter) {
                case 'W':
                    return 0;
                case 'S':
                    return 1;
                case 'C':
                    return 2;
                default:
                    return NONE;
            }
        }

        boolean isWhole() {
            return scan() == letters && awaits >= BEHIND && depth == 0 && signAt != NONE;
        }

        /** Keeps what isWhole() has just found whole. */
        int keepPage() {
            if (many >= MOST_TEXTS) {
                return FULL;
            }
            System.arraycopy(page, 0, rows[many], 0, letters);
            length[many] = letters;
            sign[many] = signAt;
            letters = 0;
            many++;
            return many - 1;
        }

        int lastOf(int letter) {
            for (int text = many - 1; text >= 0; text--) {
                if (letterNumber(rows[text][0]) == letter) {
                    return text;
                }
            }
            return NONE;
        }

        boolean holds(int text, long left, long right) {
            switch (rows[text][sign[text]]) {
                case '<':
                    return left < right;
                case '=':
                    return left == right;
                default:
                    return left > right;
            }
        }

        long valueOf(int text, int side) {
            return side == 0 ? value(rows[text], 2, sign[text]) : value(rows[text], sign[text] + 1, length[text]);
        }

        // A "-" starts the next product at -1: wrapping longs make that the same as taking it away.
        private long value(int[] row, int from, int to) {
            int open = 0;
            int number = 0;
            begin(0);
            for (int place = from; place < to; place++) {
                int letter = row[place];
                if (isDigit(letter)) {
                    number = 10 * number + letter - '0';
                    if (place + 1 >= to || !isDigit(row[place + 1])) {
                        products[open] *= number;
                        number = 0;
                    }
                } else if (letter == '(' && open < MOST_LETTERS - 1) {
                    open++;
                    begin(open);
                } else if (letter == ')' && open > 0) {
                    open--;
                    products[open] *= sums[open + 1] + products[open + 1];
                } else if (letter == '+' || letter == '-') {
                    sums[open] += products[open];
                    products[open] = letter == '+' ? 1L : -1L;
                } else if (letter != '*') {
                    products[open] *= named(letter);
                }
            }
            return sums[0] + products[0];
        }

        private void begin(int open) {
            sums[open] = 0L;
            products[open] = 1L;
        }

        private int named(int letter) {
            switch (letter) {
                case 'r':
                    return rot;
                case 't':
                    return warmth;
                case 'h':
                    return since;
                default:
                    return kind;
            }
        }
    }

    private static final class Readings {
        static final int UNREAD = -999;
        private static final int MOST_READINGS = 24;

        int many;
        int rate = 5;
        private final int[] hours = new int[MOST_READINGS];
        private final int[] numbers = new int[MOST_READINGS];

        int add(int hour, int number) {
            if (many >= MOST_READINGS) {
                return FULL;
            }
            hours[many] = hour;
            numbers[many] = number;
            many++;
            return many;
        }

        private boolean isRead(int i) {
            return numbers[i] != UNREAD;
        }

        boolean agree() {
            for (int a = 0; a < many; a++) {
                for (int b = 0; b < a; b++) {
                    int apart = Math.abs(numbers[a] - numbers[b]);
                    if (isRead(a) && isRead(b) && apart > rate * Math.abs(hours[a] - hours[b])) {
                        return false;
                    }
                }
            }
            return true;
        }

        // As each READING lets WARMTH stray by RATE an HOUR, the LEAST of all HOURS together could
        // have been themselves, and the GREATEST too: so each HOUR can be asked on its own.
        int least(int hour) {
            int least = COLDEST;
            for (int i = 0; i < many; i++) {
                if (isRead(i)) {
                    least = Math.max(least, numbers[i] - rate * Math.abs(hour - hours[i]));
                }
            }
            return least;
        }

        int greatest(int hour) {
            int greatest = HOTTEST;
            for (int i = 0; i < many; i++) {
                if (isRead(i)) {
                    greatest = Math.min(greatest, numbers[i] + rate * Math.abs(hour - hours[i]));
                }
            }
            return greatest;
        }

        int above(int from, int to, int limit) {
            int answer = 0;
            for (int hour = from; hour <= to; hour++) {
                if (least(hour) > limit) {
                    return 2;
                }
                if (greatest(hour) > limit) {
                    answer = 1;
                }
            }
            return answer;
        }

        long mixed(long h) {
            h = mix(h, rate);
            for (int i = 0; i < many; i++) {
                h = mix(h, hours[i]);
                h = mix(h, numbers[i]);
            }
            return h;
        }
    }

    private static final class Stacks {
        static final int MOST_STACKS = 4;
        private static final int MOST_ARRIVALS = 8;

        final int[] day = new int[MOST_ARRIVALS];
        int many;
        int fewest;
        private int stacks, high;
        private final int[] height = new int[MOST_STACKS];
        private final int[] laidOn = new int[MOST_ARRIVALS];
        private final int[] best = new int[MOST_ARRIVALS];

        int add(int itsDay) {
            if (many >= MOST_ARRIVALS) {
                return FULL;
            }
            day[many] = itsDay;
            many++;
            return many;
        }

        int stackOf(int arrival) {
            return arrival < many ? best[arrival] : NONE;
        }

        boolean layBest(int onStacks, int asHigh) {
            stacks = onStacks;
            high = asHigh;
            fewest = many + 1;
            place(this, 0, 0, 0);
            return fewest <= many;
        }

        // Stacks are alike, so the least of the best takes up new ones in their order: no others are tried.
        private static void place(Stacks s, int arrival, int used, int dug) {
            if (Integer.bitCount(dug) >= s.fewest) {
                return;
            }
            if (arrival >= s.many) {
                s.fewest = Integer.bitCount(dug);
                System.arraycopy(s.laidOn, 0, s.best, 0, s.many);
                return;
            }
            int tried = Math.min(used + 1, s.stacks);
            for (int stack = 0; stack < tried; stack++) {
                if (s.height[stack] < s.high) {
                    s.height[stack]++;
                    s.laidOn[arrival] = stack;
                    place(s, arrival + 1, Math.max(used, stack + 1), dug | s.dugFrom(arrival));
                    s.height[stack]--;
                }
            }
        }

        private int dugFrom(int arrival) {
            int dug = 0;
            for (int below = 0; below < arrival; below++) {
                if (laidOn[below] == laidOn[arrival] && day[below] < day[arrival]) {
                    dug |= 1 << below;
                }
            }
            return dug;
        }
    }

    private static final class Drive {
        static final int WORKS = 4;
        private static final int MOST_FLOCKS = 6, NOWHERE = WORKS;

        final int[] takes = new int[WORKS];
        final int[][] away = new int[MOST_FLOCKS][WORKS];
        int many;
        int aDay = 1;
        int most;
        private final int[] sheep = new int[MOST_FLOCKS];
        private final int[] fat = new int[MOST_FLOCKS];
        private final int[] room = new int[WORKS];
        private final int[] goes = new int[MOST_FLOCKS];
        private final int[] best = new int[MOST_FLOCKS];
        private final int[] hope = new int[MOST_FLOCKS + 1];

        Drive() {
            for (int flock = 0; flock < MOST_FLOCKS; flock++) {
                Arrays.fill(away[flock], 10);
            }
        }

        int add(int itsSheep, int itsFat) {
            if (many >= MOST_FLOCKS) {
                return FULL;
            }
            sheep[many] = itsSheep;
            fat[many] = itsFat;
            many++;
            return many - 1;
        }

        int goesOf(int flock) {
            return flock < many ? best[flock] : NONE;
        }

        private int comesOf(int flock, int works) {
            return sheep[flock] * Math.max(0, fat[flock] - aDay * away[flock][works]);
        }

        void driveBest() {
            System.arraycopy(takes, 0, room, 0, WORKS);
            hope[many] = 0;
            for (int flock = many - 1; flock >= 0; flock--) {
                hope[flock] = hope[flock + 1] + mostOf(flock);
            }
            most = NONE;
            send(this, 0, 0);
        }

        private int mostOf(int flock) {
            int top = 0;
            for (int works = 0; works < WORKS; works++) {
                top = Math.max(top, comesOf(flock, works));
            }
            return top;
        }

        // The least come first, so only what brings more than the best so far is worth a try.
        private static void send(Drive d, int flock, int comes) {
            if (comes + d.hope[flock] <= d.most) {
                return;
            }
            if (flock >= d.many) {
                d.most = comes;
                System.arraycopy(d.goes, 0, d.best, 0, d.many);
                return;
            }
            for (int works = 0; works < WORKS; works++) {
                if (d.sheep[flock] <= d.room[works]) {
                    d.room[works] -= d.sheep[flock];
                    d.goes[flock] = works;
                    send(d, flock + 1, comes + d.comesOf(flock, works));
                    d.room[works] += d.sheep[flock];
                }
            }
            d.goes[flock] = NOWHERE;
            send(d, flock + 1, comes);
        }

        long mixed(long h) {
            for (int flock = 0; flock < many; flock++) {
                h = mix(h, sheep[flock]);
                h = mix(h, fat[flock]);
                h = mixRow(h, away[flock], WORKS);
            }
            h = mixRow(h, takes, WORKS);
            return mix(h, aDay);
        }
    }

    private static final class Market {
        static final int WEEKS = 200;
        static final int[] LEAST_SET = {0, 0, 0, 1};
        static final int[] MOST_SET = {999, 99, 6, 6};
        private static final int BASE = 0, SLOPE = 1, LAG = 2, WAY = 3;
        private static final int MOST_SELLERS = 5;

        final int[] set = {100, 1, 2, 3};
        int many;
        private final int[] load = new int[MOST_SELLERS];
        private final int[] limit = new int[MOST_SELLERS];
        private final int[] price = new int[WEEKS];
        private final int[] shipped = new int[WEEKS];

        int add(int lots, int itsLimit) {
            if (many >= MOST_SELLERS) {
                return FULL;
            }
            load[many] = lots;
            limit[many] = itsLimit;
            many++;
            return many - 1;
        }

        void run() {
            for (int week = 0; week < WEEKS; week++) {
                price[week] = Math.max(0, set[BASE] - set[SLOPE] * shippedIn(week - set[WAY]));
                shipped[week] = loadOf(sellersAt(priceIn(week - set[LAG])));
            }
        }

        private int priceIn(int week) {
            return week < 0 ? set[BASE] : price[week];
        }

        private int shippedIn(int week) {
            return week < 0 ? 0 : shipped[week];
        }

        private int sellersAt(int itsPrice) {
            int sellers = 0;
            for (int seller = 0; seller < many; seller++) {
                if (itsPrice >= limit[seller]) {
                    sellers |= 1 << seller;
                }
            }
            return sellers;
        }

        private int loadOf(int sellers) {
            int sum = 0;
            for (int seller = 0; seller < many; seller++) {
                if ((sellers >> seller & 1) == 1) {
                    sum += load[seller];
                }
            }
            return sum;
        }

        int tell(int week, int what) {
            int sellers = sellersAt(priceIn(week - set[LAG]));
            switch (what) {
                case 0:
                    return price[week];
                case 1:
                    return shipped[week];
                case 2:
                    return Integer.bitCount(sellers ^ sellersAt(price[week]));
                default:
                    return sellers;
            }
        }

        int turn(int what) {
            for (int week = 0; week < WEEKS; week++) {
                for (int later = week + 1; later < WEEKS; later++) {
                    if (alike(week, later)) {
                        return what == 0 ? week : later - week;
                    }
                }
            }
            return NONE;
        }

        private boolean alike(int week, int later) {
            for (int ago = 1; ago <= set[WAY]; ago++) {
                if (shippedIn(week - ago) != shippedIn(later - ago)) {
                    return false;
                }
            }
            for (int ago = 1; ago <= set[LAG]; ago++) {
                if (priceIn(week - ago) != priceIn(later - ago)) {
                    return false;
                }
            }
            return true;
        }

        long mixed(long h) {
            h = mixRow(h, set, 4);
            for (int seller = 0; seller < many; seller++) {
                h = mix(h, load[seller]);
                h = mix(h, limit[seller]);
            }
            return h;
        }
    }

    private static final class Farms {
        static final int DEAREST = 999, ALL = 255;
        private static final int MOST_FARMS = 8, AT_EACH = -2;

        final int[][] owes = new int[MOST_FARMS][MOST_FARMS];
        int many;
        int rounds;
        private final int[] gain = new int[MOST_FARMS];
        private final int[] own = new int[MOST_FARMS];

        boolean isOne(int farm) {
            return within(farm, 0, many - 1);
        }

        int add(int itsGain, int itsOwn) {
            if (many >= MOST_FARMS) {
                return FULL;
            }
            gain[many] = itsGain;
            own[many] = itsOwn;
            many++;
            return many - 1;
        }

        int fallenAt(int price) {
            int fallen = 0;
            rounds = 0;
            for (int round = 0; round < many; round++) {
                int then = fallenAfter(price, fallen);
                if (then == fallen) {
                    return fallen;
                }
                fallen = then;
                rounds++;
            }
            return fallen;
        }

        private int fallenAfter(int price, int fallen) {
            int then = fallen;
            for (int farm = 0; farm < many; farm++) {
                if (left(farm, price, fallen) < 0) {
                    then |= 1 << farm;
                }
            }
            return then;
        }

        private int left(int farm, int price, int fallen) {
            int left = gain[farm] * price + own[farm];
            for (int other = 0; other < many; other++) {
                left -= owes[farm][other];
                if ((fallen >> other & 1) == 0) {
                    left += owes[other][farm];
                }
            }
            return left;
        }

        // No FARM has less at a higher PRICE, so none falls at one that stands at a lower: halving finds the least.
        int leastPrice(int set) {
            int low = 0;
            int high = DEAREST + 1;
            for (int i = 0; i < 11 && low < high; i++) {
                int middle = (low + high) / 2;
                if ((fallenAt(middle) & set) == 0) {
                    high = middle;
                } else {
                    low = middle + 1;
                }
            }
            return high > DEAREST ? AT_EACH : high;
        }

        long mixed(long h) {
            for (int farm = 0; farm < many; farm++) {
                h = mix(h, gain[farm]);
                h = mix(h, own[farm]);
                h = mixRow(h, owes[farm], many);
            }
            return h;
        }
    }

    private static final class Ring {
        static final int[] MOST_SET = {999, 99, 100, 999};
        private static final int FLOOR = 0, RISE = 1, QUOTA = 2, CUT = 3;
        private static final int MOST_LINES = 5;

        final int[] set = {50, 2, 80, 10};
        int many;
        private final int[] ships = new int[MOST_LINES];
        private final int[] cost = new int[MOST_LINES];

        int add(int itsShips, int itsCost) {
            if (many >= MOST_LINES) {
                return FULL;
            }
            ships[many] = itsShips;
            cost[many] = itsCost;
            many++;
            return many - 1;
        }

        int allSets() {
            return 1 << many;
        }

        private static boolean isIn(int line, int lines) {
            return (lines >> line & 1) == 1;
        }

        private int shipsOf(int lines) {
            int sum = 0;
            for (int line = 0; line < many; line++) {
                if (isIn(line, lines)) {
                    sum += ships[line];
                }
            }
            return sum;
        }

        long earned(int line, int lines) {
            long each = set[FLOOR] + set[RISE] * shipsOf(lines) - cost[line];
            if (isIn(line, lines)) {
                return each * ships[line] * set[QUOTA];
            }
            return (each - set[CUT]) * ships[line] * 100L;
        }

        private boolean holds(int lines) {
            for (int line = 0; line < many; line++) {
                if (earned(line, lines ^ 1 << line) > earned(line, lines)) {
                    return false;
                }
            }
            return true;
        }

        int howManyHold() {
            int sum = 0;
            for (int lines = 0; lines < allSets(); lines++) {
                if (holds(lines)) {
                    sum++;
                }
            }
            return sum;
        }

        int greatestThatHolds() {
            int best = NONE;
            int most = NONE;
            for (int lines = 0; lines < allSets(); lines++) {
                if (shipsOf(lines) > most && holds(lines)) {
                    best = lines;
                    most = shipsOf(lines);
                }
            }
            return best;
        }

        long mixed(long h) {
            for (int line = 0; line < many; line++) {
                h = mix(h, ships[line]);
                h = mix(h, cost[line]);
            }
            return mixRow(h, set, 4);
        }
    }

    private static final class Choices {
        static final int YEARS = 5;
        private static final int MOST_CHOICES = 8;

        final int[][] yields = new int[MOST_CHOICES][YEARS];
        int many;
        private final int[] cost = new int[MOST_CHOICES];

        int add(int itsCost) {
            if (many >= MOST_CHOICES) {
                return FULL;
            }
            cost[many] = itsCost;
            many++;
            return many - 1;
        }

        int bestFor(int coin, int years) {
            int best = 0;
            for (int set = 1; set < 1 << many; set++) {
                if (costOf(set) <= coin && isBetter(set, best, years)) {
                    best = set;
                }
            }
            return best;
        }

        private boolean isBetter(int set, int best, int years) {
            int more = worstOf(set, years) - worstOf(best, years);
            return more > 0 || (more == 0 && costOf(set) < costOf(best));
        }

        int costOf(int set) {
            int sum = 0;
            for (int choice = 0; choice < many; choice++) {
                if ((set >> choice & 1) == 1) {
                    sum += cost[choice];
                }
            }
            return sum;
        }

        int worstOf(int set, int years) {
            int worst = givenIn(set, 0);
            for (int year = 1; year < years; year++) {
                worst = Math.min(worst, givenIn(set, year));
            }
            return worst;
        }

        private int givenIn(int set, int year) {
            int sum = 0;
            for (int choice = 0; choice < many; choice++) {
                if ((set >> choice & 1) == 1) {
                    sum += yields[choice][year];
                }
            }
            return sum;
        }

        long mixed(long h) {
            for (int choice = 0; choice < many; choice++) {
                h = mix(h, cost[choice]);
                h = mixRow(h, yields[choice], YEARS);
            }
            return h;
        }
    }
}
