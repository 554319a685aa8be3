import java.util.Arrays;

/** A day of power units: which of them run in which hours, what that costs, and what would be best. */
public final class UnitHours {
    public static final int NONE = -1000000, BAD = -1000001, STATE = -1000002, FULL = -1000003;

    private static final int FINDINGS = -1000010, FAULTS = -1000100;
    private static final int NULL = 1, PLACE = 2, KIND = 3, SIZE = 4, STORE = 5;
    private static final int MOST_HOURS = 6, MOST_UNITS = 4, MOST_STATES = 1296, MOST_COMBOS = 81;
    private static final int MOST_DEMAND = 60, MOST_RESERVE = 20, MOST_PRICE = 9, MOST_MOVES = 12, MOST_DRAWS = 8;
    private static final int MOST_COST = 99999, MOST_SEED = 999999, MOST_IMAGES = 2;
    private static final int PLAIN = 1, QUICK = 2, SLOW = 3, WATER = 4, RIVER = 5;
    /** For each kind the kinds that it is, itself among them, as bits. */
    private static final int[] KINDS_IT_IS = {1, 3, 7, 11, 17, 49};

    private final Rows rows;
    private final Tape tape;
    private final Day day;
    private final Day trial;
    private final Day[] images;
    private final Acts acts;
    private final Search search;
    private final Lone lone;
    private final Asks asks;
    private int finding;
    private int latestFault;
    /** The best of the day as it is, kept because many calls in a row ask for it. */
    private long known;
    private boolean isKnown;

    public UnitHours() {
        rows = new Rows();
        tape = new Tape();
        day = new Day();
        trial = new Day();
        images = new Day[MOST_IMAGES];
        for (int k = 0; k < MOST_IMAGES; k++) {
            images[k] = new Day();
        }
        acts = new Acts();
        search = new Search();
        lone = new Lone();
        asks = new Asks();
    }

    // ---- rows

    public int row(int row, int lane, int n) {
        if (noRow(row) || lane < 0 || lane > Rows.INTS || n > Rows.MOST_ITEMS) {
            return BAD;
        }
        if (n < 0) {
            return found(SIZE);
        }
        rows.make(row, lane, n);
        return well(n);
    }

    public int set(int row, int i, int v) {
        if (noRow(row)) {
            return BAD;
        }
        if (rows.isMissing(row)) {
            return found(NULL);
        }
        if (rows.lacks(row, i, 1)) {
            return found(PLACE);
        }
        return well(rows.put(row, i, v));
    }

    public int copy(int a, int i, int b, int j, int n) {
        if (noRow(a) || noRow(b)) {
            return BAD;
        }
        if (rows.isMissing(a) || rows.isMissing(b)) {
            return found(NULL);
        }
        if (rows.lanes[a] != rows.lanes[b]) {
            return found(STORE);
        }
        if (rows.lacks(a, i, n) || rows.lacks(b, j, n)) {
            return found(PLACE);
        }
        System.arraycopy(rows.items[a], i, rows.items[b], j, n);
        return well(n);
    }

    public int drop(int row) {
        if (noRow(row)) {
            return BAD;
        }
        if (rows.isMissing(row)) {
            return found(NULL);
        }
        return well(rows.lose(row));
    }

    // ---- days, acts

    public int feed(int letter) {
        if (letter < 0 || letter > 255) {
            return BAD;
        }
        if (tape.isFull()) {
            return FULL;
        }
        return tape.add(letter);
    }

    public int day() {
        tape.readInto(trial);
        tape.length = 0;
        if (tape.fault != 0) {
            latestFault = tape.fault;
            return FAULTS - tape.at;
        }
        day.becomeLike(trial);
        acts.forget();
        isKnown = false;
        return day.units;
    }

    public int fault() {
        return latestFault;
    }

    public int run(int unit, int hours) {
        if (noUnit(unit) || hours < 0 || hours > day.allHours()) {
            return BAD;
        }
        int was = day.on[unit];
        if (was == hours) {
            return STATE;
        }
        keepForUndo();
        day.on[unit] = hours;
        return was;
    }

    public int layBest() {
        if (noDay()) {
            return STATE;
        }
        long best = bestNow();
        if (best < 0) {
            return NONE;
        }
        keepForUndo();
        for (int u = 0; u < day.units; u++) {
            day.on[u] = Search.hoursOf(best, u);
        }
        return Search.costOf(best);
    }

    public int demand(int hour, int v) {
        if (noHour(hour) || v < 0 || v > MOST_DEMAND) {
            return BAD;
        }
        keepForUndo();
        int was = day.demands[hour];
        day.demands[hour] = v;
        return was;
    }

    public int reserve(int v) {
        if (noDay()) {
            return STATE;
        }
        if (v < 0 || v > MOST_RESERVE) {
            return BAD;
        }
        keepForUndo();
        int was = day.reserve;
        day.reserve = v;
        return was;
    }

    public int price(int unit, int v) {
        if (noUnit(unit) || v < 1 || v > MOST_PRICE) {
            return BAD;
        }
        keepForUndo();
        int was = day.prices[unit];
        day.putPrice(unit, v);
        return was;
    }

    public int become(int unit, int kind) {
        if (noUnit(unit) || kind < PLAIN || kind > RIVER) {
            return BAD;
        }
        int was = day.kinds[unit];
        if (was == kind) {
            return STATE;
        }
        keepForUndo();
        day.putKind(unit, kind);
        return was;
    }

    public int undo() {
        if (acts.size == 0) {
            return STATE;
        }
        acts.takeBack(day);
        isKnown = false;
        return acts.size;
    }

    public int unit(int unit, int what) {
        if (noUnit(unit)) {
            return BAD;
        }
        switch (what) {
            case 0: return day.lows[unit];
            case 1: return day.highs[unit];
            case 2: return day.prices[unit];
            case 3: return day.starts[unit];
            case 4: return day.ups[unit];
            case 5: return day.downs[unit];
            case 6: return day.on[unit];
            case 7: return startsAmong(day.on[unit]);
            case 8: return day.keeps(unit, day.on[unit]) ? 1 : 0;
            default: return BAD;
        }
    }

    public int hour(int hour, int what) {
        if (noHour(hour)) {
            return BAD;
        }
        int on = day.unitsOn(hour);
        int starting = day.unitsStarting(hour);
        switch (what) {
            case 0: return day.demands[hour];
            case 1: return on;
            case 2: return day.floorsOf(on);
            case 3: return day.roofsOf(on, starting);
            case 4: return day.isMet(day.demands[hour], on, starting) ? 1 : 0;
            default: return BAD;
        }
    }

    public int gives(int unit, int hour) {
        if (noUnit(unit) || noHour(hour)) {
            return BAD;
        }
        int on = day.unitsOn(hour);
        int starting = day.unitsStarting(hour);
        if (!day.isMet(day.demands[hour], on, starting)) {
            return NONE;
        }
        return day.givenBy(unit, day.demands[hour], on, starting);
    }

    public int plan(int what) {
        if (noDay()) {
            return STATE;
        }
        switch (what) {
            case 0: return day.planCost();
            case 1: return day.hoursNotMet();
            case 2: return day.unitsNotKeeping();
            case 3: return day.countStarts();
            case 4: return day.reserve;
            default: return BAD;
        }
    }

    // ---- foretold

    public int best(int what) {
        if (noDay()) {
            return STATE;
        }
        if (what < -1 || what >= day.hours) {
            return BAD;
        }
        long best = bestNow();
        if (best < 0) {
            return NONE;
        }
        return what < 0 ? Search.costOf(best) : Search.unitsIn(best, what);
    }

    public long alone(int unit, int row, int i, int what) {
        if (noUnit(unit) || noRow(row) || what < -2 || what >= day.hours) {
            return BAD;
        }
        if (rows.isMissing(row)) {
            return found(NULL);
        }
        if (rows.lacks(row, i, day.hours)) {
            return found(PLACE);
        }
        finding = 0;
        lone.takePrices(rows.items[row], i, day.hours);
        lone.decide(day, unit);
        if (what == -2) {
            return lone.loss;
        }
        return what == -1 ? lone.on : lone.givenIn(day, unit, what);
    }

    public long bound(int row, int i) {
        if (noDay()) {
            return STATE;
        }
        if (noRow(row)) {
            return BAD;
        }
        if (rows.isMissing(row)) {
            return found(NULL);
        }
        if (rows.lacks(row, i, day.hours)) {
            return found(PLACE);
        }
        finding = 0;
        lone.takePrices(rows.items[row], i, day.hours);
        return lone.boundOf(day);
    }

    public int moved(int n, int what) {
        if (noDay()) {
            return STATE;
        }
        if (n < 0 || n > MOST_MOVES || what < -1 || what >= day.hours) {
            return BAD;
        }
        long greatest = lone.movePrices(day, n);
        return (int) (what < 0 ? greatest : lone.prices[what]);
    }

    public int gap(int n) {
        if (noDay()) {
            return STATE;
        }
        if (n < 0 || n > MOST_MOVES) {
            return BAD;
        }
        long best = bestNow();
        if (best < 0) {
            return NONE;
        }
        return (int) (Search.costOf(best) - lone.movePrices(day, n));
    }

    public int more(int hour) {
        if (noHour(hour)) {
            return BAD;
        }
        int now = Search.costOf(bestNow());
        if (now < 0) {
            return NONE;
        }
        trial.becomeLike(day);
        trial.demands[hour]++;
        int then = Search.costOf(search.findBest(trial, -1));
        return then < 0 ? NONE : then - now;
    }

    public int wanted() {
        if (noDay()) {
            return STATE;
        }
        if (bestNow() < 0) {
            return NONE;
        }
        int wanted = 0;
        for (int u = 0; u < day.units; u++) {
            if (search.findBest(day, u) < 0) {
                wanted |= 1 << u;
            }
        }
        return wanted;
    }

    public int who(int which, int x, int v) {
        if (noDay()) {
            return STATE;
        }
        if (which < 0 || which > 3 || v < 0 || v > MOST_COST) {
            return BAD;
        }
        if (which < 2 ? noHour(x) : noUnit(x)) {
            return BAD;
        }
        switch (which) {
            case 0: return countDemands(x, v);
            case 1: return leastDemand(x, v);
            case 2: return kindsThatCost(x, v);
            default: return pricesThatCost(x, v);
        }
    }

    public int fits(int unit, int row, int n) {
        if (noUnit(unit) || noRow(row) || n < 1 || n > day.hours) {
            return BAD;
        }
        if (rows.isMissing(row)) {
            return found(NULL);
        }
        if (rows.lacks(row, 0, n)) {
            return found(PLACE);
        }
        finding = 0;
        return kindsThatFit(unit, rows.items[row], n);
    }

    public int drawn(int n, int seed, int what) {
        if (noDay()) {
            return STATE;
        }
        if (n < 0 || n > MOST_DRAWS || seed < 1 || seed > MOST_SEED || what < 0 || what > 1) {
            return BAD;
        }
        int often = 0;
        int together = 0;
        long x = seed;
        trial.becomeLike(day);
        for (int k = 0; k < n; k++) {
            x = x * 16807 % 2147483647;
            trial.demands[(int) (x % day.hours)] = (int) (x / 16 % 40);
            int cost = Search.costOf(search.findBest(trial, -1));
            if (cost >= 0) {
                often++;
                together += cost;
            }
        }
        return what == 0 ? often : together;
    }

    public int image(int k) {
        if (k < 0 || k >= MOST_IMAGES) {
            return BAD;
        }
        if (noDay()) {
            return STATE;
        }
        images[k].becomeLike(day);
        return 1;
    }

    public int restore(int k) {
        if (k < 0 || k >= MOST_IMAGES) {
            return BAD;
        }
        if (images[k].hours == 0) {
            return STATE;
        }
        day.becomeLike(images[k]);
        acts.forget();
        isKnown = false;
        return 1;
    }

    // ---- asked

    public int kind(int unit) {
        return noUnit(unit) ? BAD : day.kinds[unit];
    }

    public int as(int unit, int kind) {
        if (noUnit(unit) || kind < 0 || kind > RIVER) {
            return BAD;
        }
        if ((KINDS_IT_IS[day.kinds[unit]] >> kind & 1) == 0) {
            return found(KIND);
        }
        return well(unit);
    }

    public int ask(int unit, int what) {
        if (noUnit(unit) || what < 0 || what > 1) {
            return BAD;
        }
        asks.begin(day, unit);
        return what == 0 ? asks.sizeOf() : asks.markOf();
    }

    public int trace(int i) {
        return i < 0 || i >= asks.length ? NONE : asks.left[i];
    }

    public int count(int what) {
        switch (what) {
            case 0: return rows.countThere();
            case 1: return day.units;
            case 2: return day.hours;
            case 3: return day.sumDemands();
            case 4: return acts.size;
            case 5: return tape.length;
            default: return BAD;
        }
    }

    public int status() {
        return finding;
    }

    // ---- what the calls share

    private int found(int which) {
        finding = which;
        return FINDINGS - which;
    }

    private int well(int answer) {
        finding = 0;
        return answer;
    }

    private boolean noRow(int row) {
        return row < 0 || row >= Rows.MOST_ROWS;
    }

    private boolean noDay() {
        return day.hours == 0;
    }

    private boolean noHour(int hour) {
        return hour < 0 || hour >= day.hours;
    }

    private boolean noUnit(int unit) {
        return unit < 0 || unit >= day.units;
    }

    private void keepForUndo() {
        acts.keep(day);
        isKnown = false;
    }

    private long bestNow() {
        if (!isKnown) {
            known = search.findBest(day, -1);
            isKnown = true;
        }
        return known;
    }

    private int countDemands(int hour, int cost) {
        int many = 0;
        search.lookAround(day, hour);
        for (int d = 0; d <= MOST_DEMAND; d++) {
            if (search.costAround(day, d) == cost) {
                many++;
            }
        }
        return many;
    }

    private int leastDemand(int hour, int cost) {
        search.lookAround(day, hour);
        for (int d = 0; d <= MOST_DEMAND; d++) {
            if (search.costAround(day, d) == cost) {
                return d;
            }
        }
        return NONE;
    }

    private int kindsThatCost(int unit, int cost) {
        int kinds = 0;
        trial.becomeLike(day);
        for (int k = PLAIN; k <= RIVER; k++) {
            trial.putKind(unit, k);
            if (Search.costOf(search.findBest(trial, -1)) == cost) {
                kinds |= 1 << k;
            }
        }
        return kinds;
    }

    private int pricesThatCost(int unit, int cost) {
        int prices = 0;
        trial.becomeLike(day);
        for (int p = 1; p <= MOST_PRICE; p++) {
            trial.putPrice(unit, p);
            if (Search.costOf(search.findBest(trial, -1)) == cost) {
                prices |= 1 << p;
            }
        }
        return prices;
    }

    private int kindsThatFit(int unit, int[] told, int n) {
        int kinds = 0;
        trial.becomeLike(day);
        for (int k = PLAIN; k <= RIVER; k++) {
            trial.putKind(unit, k);
            long best = search.findBest(trial, -1);
            if (best >= 0 && isAsTold(best, told, n)) {
                kinds |= 1 << k;
            }
        }
        return kinds;
    }

    private static boolean isAsTold(long best, int[] told, int n) {
        for (int h = 0; h < n; h++) {
            if (told[h] != Search.unitsIn(best, h)) {
                return false;
            }
        }
        return true;
    }

    /** The hours in which a unit starts that is on in these. */
    private static int startsAmong(int on) {
        return on & ~(on << 1);
    }

    /** The eight rows. All items are held as ints, cut to their lane when they are put. */
    private static final class Rows {
        private static final int MOST_ROWS = 8, MOST_ITEMS = 40, BYTES = 0, SHORTS = 1, INTS = 2, MISSING = -1;

        private final int[][] items = new int[MOST_ROWS][MOST_ITEMS];
        private final int[] lanes = new int[MOST_ROWS];
        private final int[] sizes = new int[MOST_ROWS];

        Rows() {
            Arrays.fill(sizes, MISSING);
        }

        void make(int row, int lane, int n) {
            Arrays.fill(items[row], 0);
            lanes[row] = lane;
            sizes[row] = n;
        }

        boolean isMissing(int row) {
            return sizes[row] == MISSING;
        }

        /** Whether not all of n items from i on are there; told so that no sum can wrap around. */
        boolean lacks(int row, int i, int n) {
            return i < 0 || n < 0 || i > sizes[row] || n > sizes[row] - i;
        }

        int put(int row, int i, int v) {
            int cut = v;
            if (lanes[row] == BYTES) {
                cut = (byte) v;
            } else if (lanes[row] == SHORTS) {
                cut = (short) v;
            }
            items[row][i] = cut;
            return cut;
        }

        int lose(int row) {
            int had = sizes[row];
            sizes[row] = MISSING;
            return had;
        }

        int countThere() {
            int there = 0;
            for (int r = 0; r < MOST_ROWS; r++) {
                if (!isMissing(r)) {
                    there++;
                }
            }
            return there;
        }
    }

    /** A day with its plan. No hours: there is no day. */
    private static final class Day {
        private int hours;
        private int units;
        private int reserve;
        private final int[] demands = new int[MOST_HOURS];
        private final int[] kinds = new int[MOST_UNITS];
        private final int[] lows = new int[MOST_UNITS];
        private final int[] highs = new int[MOST_UNITS];
        private final int[] prices = new int[MOST_UNITS];
        private final int[] starts = new int[MOST_UNITS];
        private final int[] ups = new int[MOST_UNITS];
        private final int[] downs = new int[MOST_UNITS];
        /** The plan: the hours in which each unit is on, as bits. */
        private final int[] on = new int[MOST_UNITS];
        /** What follows from kinds and prices, kept because the search looks at it so often: settle. */
        private final int[] order = new int[MOST_UNITS];
        private final int[] floors = new int[MOST_UNITS];
        private final int[] startRoofs = new int[MOST_UNITS];
        private final int[] startCosts = new int[MOST_UNITS];

        void becomeLike(Day other) {
            hours = other.hours;
            units = other.units;
            reserve = other.reserve;
            System.arraycopy(other.demands, 0, demands, 0, MOST_HOURS);
            System.arraycopy(other.kinds, 0, kinds, 0, MOST_UNITS);
            System.arraycopy(other.lows, 0, lows, 0, MOST_UNITS);
            System.arraycopy(other.highs, 0, highs, 0, MOST_UNITS);
            System.arraycopy(other.prices, 0, prices, 0, MOST_UNITS);
            System.arraycopy(other.starts, 0, starts, 0, MOST_UNITS);
            System.arraycopy(other.ups, 0, ups, 0, MOST_UNITS);
            System.arraycopy(other.downs, 0, downs, 0, MOST_UNITS);
            System.arraycopy(other.on, 0, on, 0, MOST_UNITS);
            settle();
        }

        void putPrice(int unit, int v) {
            prices[unit] = v;
            settle();
        }

        void putKind(int unit, int kind) {
            kinds[unit] = kind;
            settle();
        }

        private void settle() {
            for (int u = 0; u < units; u++) {
                boolean isWater = kinds[u] == WATER || kinds[u] == RIVER;
                floors[u] = isWater ? 0 : lows[u];
                startRoofs[u] = kinds[u] == SLOW ? lows[u] : highs[u];
                startCosts[u] = isWater ? 0 : kinds[u] == QUICK ? starts[u] / 2 : starts[u];
            }
            sortUnits();
        }

        /** Cheapest first. Only a lesser price goes ahead, so that of like prices the lesser number stays first. */
        private void sortUnits() {
            for (int u = 0; u < units; u++) {
                int k = u;
                while (k > 0 && prices[u] < prices[order[k - 1]]) {
                    order[k] = order[k - 1];
                    k--;
                }
                order[k] = u;
            }
        }

        int allHours() {
            return (1 << hours) - 1;
        }

        int sumDemands() {
            int sum = 0;
            for (int h = 0; h < hours; h++) {
                sum += demands[h];
            }
            return sum;
        }

        /** Whether a unit that is on in these hours keeps its hours. */
        boolean keeps(int unit, int hoursOn) {
            if (kinds[unit] == RIVER) {
                return hoursOn == allHours();
            }
            int onFor = 0;
            // ahead of the first hour all are off long since: no start is too early there
            int offFor = MOST_HOURS;
            for (int h = 0; h < hours; h++) {
                if ((hoursOn >> h & 1) == 1) {
                    if (onFor == 0 && offFor < downs[unit]) {
                        return false;
                    }
                    onFor++;
                    offFor = 0;
                } else {
                    if (onFor > 0 && onFor < ups[unit]) {
                        return false;
                    }
                    onFor = 0;
                    offFor++;
                }
            }
            return true;
        }

        int unitsOn(int hour) {
            return unitsAmong(hour, false);
        }

        int unitsStarting(int hour) {
            return unitsAmong(hour, true);
        }

        private int unitsAmong(int hour, boolean onlyStarting) {
            int found = 0;
            for (int u = 0; u < units; u++) {
                int among = onlyStarting ? startsAmong(on[u]) : on[u];
                found |= (among >> hour & 1) << u;
            }
            return found;
        }

        int floorsOf(int unitsOn) {
            int sum = 0;
            for (int u = 0; u < units; u++) {
                if ((unitsOn >> u & 1) == 1) {
                    sum += floors[u];
                }
            }
            return sum;
        }

        int roofsOf(int unitsOn, int starting) {
            int sum = 0;
            for (int u = 0; u < units; u++) {
                if ((unitsOn >> u & 1) == 1) {
                    sum += (starting >> u & 1) == 1 ? startRoofs[u] : highs[u];
                }
            }
            return sum;
        }

        boolean isMet(int demand, int unitsOn, int starting) {
            return floorsOf(unitsOn) <= demand && roofsOf(unitsOn, starting) >= demand + reserve;
        }

        /** What one unit gives in an hour that is met. */
        int givenBy(int unit, int demand, int unitsOn, int starting) {
            int lack = demand - floorsOf(unitsOn);
            for (int k = 0; k < units; k++) {
                int u = order[k];
                if ((unitsOn >> u & 1) == 1) {
                    int roof = (starting >> u & 1) == 1 ? startRoofs[u] : highs[u];
                    int added = Math.min(lack, roof - floors[u]);
                    if (u == unit) {
                        return floors[u] + added;
                    }
                    lack -= added;
                }
            }
            return 0;
        }

        /** What an hour costs, its starts too; NONE, if it is not met. */
        int hourCost(int demand, int unitsOn, int starting) {
            int lack = demand;
            int room = -demand - reserve;
            for (int u = 0; u < units; u++) {
                if ((unitsOn >> u & 1) == 1) {
                    lack -= floors[u];
                    room += (starting >> u & 1) == 1 ? startRoofs[u] : highs[u];
                }
            }
            if (lack < 0 || room < 0) {
                return NONE;
            }
            int cost = 0;
            for (int k = 0; k < units; k++) {
                int u = order[k];
                if ((unitsOn >> u & 1) == 1) {
                    boolean isStarting = (starting >> u & 1) == 1;
                    int spread = (isStarting ? startRoofs[u] : highs[u]) - floors[u];
                    int added = lack < spread ? lack : spread;
                    lack -= added;
                    cost += (floors[u] + added) * prices[u] + (isStarting ? startCosts[u] : 0);
                }
            }
            return cost;
        }

        int planCost() {
            if (unitsNotKeeping() != 0) {
                return NONE;
            }
            int cost = 0;
            for (int h = 0; h < hours; h++) {
                int part = hourCost(demands[h], unitsOn(h), unitsStarting(h));
                if (part == NONE) {
                    return NONE;
                }
                cost += part;
            }
            return cost;
        }

        int hoursNotMet() {
            int failing = 0;
            for (int h = 0; h < hours; h++) {
                if (!isMet(demands[h], unitsOn(h), unitsStarting(h))) {
                    failing |= 1 << h;
                }
            }
            return failing;
        }

        int unitsNotKeeping() {
            int breaking = 0;
            for (int u = 0; u < units; u++) {
                if (!keeps(u, on[u])) {
                    breaking |= 1 << u;
                }
            }
            return breaking;
        }

        int countStarts() {
            int many = 0;
            for (int u = 0; u < units; u++) {
                many += Integer.bitCount(startsAmong(on[u]));
            }
            return many;
        }
    }

    /** The tape, and how a day is read from it. */
    private static final class Tape {
        private static final int MOST_BYTES = 120;
        private static final int CANNOT_STAND = 1, NOT_AS_TOLD = 2, NO_ROOM = 3;

        private final int[] bytes = new int[MOST_BYTES];
        private int length;
        /** While reading: the place of the next token; behind it: the place of the fault. */
        private int at;
        private int fault;

        boolean isFull() {
            return length >= MOST_BYTES;
        }

        int add(int letter) {
            bytes[length] = letter;
            length++;
            return length;
        }

        /**
         * Reads into a day that is only looked at where there is no fault. Each step does nothing once there
         * is one, so that at stays where it was found.
         */
        void readInto(Day day) {
            at = 0;
            fault = 0;
            Arrays.fill(day.on, 0);
            readSign('v');
            day.reserve = readNumber(0, MOST_RESERVE);
            readSign(';');
            readHours(day);
            readUnits(day);
        }

        private void readHours(Day day) {
            for (int k = 0; k <= MOST_HOURS && fault == 0 && (k == 0 || next() == 'h'); k++) {
                if (k == MOST_HOURS) {
                    fault = NO_ROOM;
                } else {
                    readSign('h');
                    day.demands[k] = readNumber(0, MOST_DEMAND);
                    readSign(';');
                    day.hours = k + 1;
                }
            }
        }

        private void readUnits(Day day) {
            for (int k = 0; k <= MOST_UNITS && fault == 0 && (k == 0 || at < length); k++) {
                int kind = kindOfSort(next());
                if (kind == 0) {
                    fault = CANNOT_STAND;
                } else if (k == MOST_UNITS) {
                    fault = NO_ROOM;
                } else {
                    at++;
                    day.units = k + 1;
                    day.kinds[k] = kind;
                    readUnit(day, k);
                }
            }
        }

        private void readUnit(Day day, int unit) {
            day.lows[unit] = readNumber(0, 20);
            readSign(',');
            day.highs[unit] = readNumber(day.lows[unit], 30);
            readSign(',');
            day.prices[unit] = readNumber(1, MOST_PRICE);
            readSign(',');
            day.starts[unit] = readNumber(0, 40);
            readSign(',');
            day.ups[unit] = readNumber(1, 3);
            readSign(',');
            day.downs[unit] = readNumber(1, 3);
            readSign(';');
        }

        private int kindOfSort(int letter) {
            switch (letter) {
                case 'p': return PLAIN;
                case 'q': return QUICK;
                case 's': return SLOW;
                case 'w': return WATER;
                case 'r': return RIVER;
                default: return 0;
            }
        }

        /** The next byte; at the end one that no byte is. */
        private int next() {
            return at < length ? bytes[at] : -1;
        }

        private boolean isFigure(int place) {
            return place < length && bytes[place] >= '0' && bytes[place] <= '9';
        }

        private void readSign(int sign) {
            if (fault != 0) {
                return;
            }
            if (next() == sign) {
                at++;
            } else {
                fault = CANNOT_STAND;
            }
        }

        private int readNumber(int least, int most) {
            if (fault != 0) {
                return 0;
            }
            boolean hasTwo = isFigure(at + 1);
            if (!isFigure(at) || hasTwo && isFigure(at + 2)) {
                fault = CANNOT_STAND;
                return 0;
            }
            int v = bytes[at] - '0';
            if (hasTwo) {
                v = v * 10 + bytes[at + 1] - '0';
            }
            if (v < least || v > most) {
                fault = NOT_AS_TOLD;
                return 0;
            }
            at += hasTwo ? 2 : 1;
            return v;
        }
    }

    /** What the day was ahead of each act; the oldest place is used again when all are full. */
    private static final class Acts {
        private static final int MOST_ACTS = 16;

        private final Day[] kept = new Day[MOST_ACTS];
        private int first;
        private int size;

        Acts() {
            for (int k = 0; k < MOST_ACTS; k++) {
                kept[k] = new Day();
            }
        }

        void forget() {
            size = 0;
        }

        void keep(Day day) {
            if (size == MOST_ACTS) {
                first = (first + 1) % MOST_ACTS;
                size--;
            }
            kept[(first + size) % MOST_ACTS].becomeLike(day);
            size++;
        }

        void takeBack(Day day) {
            size--;
            day.becomeLike(kept[(first + size) % MOST_ACTS]);
        }
    }

    /**
     * Looks for the best plan hour by hour. A unit is in one of at most six states: off, and for how many hours
     * it still must be, or on, and for how many it has been; all units together are in one of at most 1296. For
     * each of these the best way to it is kept, as one number: its cost, and behind that the units that are on
     * in hour 0, 1, .. (four bits each). So of two ways the lesser number is the better one, and of like cost the
     * one that the document wants.
     */
    private static final class Search {
        private static final int UNIT_STATES = 6, PLAN_BITS = MOST_UNITS * MOST_HOURS;
        private static final int OFF = 0, STAYS = 1, STARTS = 2, ACTS_OF_ONE = 3;
        private static final long FAR = 1L << 60;

        /** A combo is what each unit does in an hour, by threes: OFF, STAYS, STARTS. */
        private final int[] comboOn = new int[MOST_COMBOS];
        private final int[] comboStarting = new int[MOST_COMBOS];
        /** What each combo adds to a way: the cost of the hour, and its units. */
        private final long[] comboParts = new long[MOST_COMBOS];
        /** For each combo the best of all hours but one: lookAround. */
        private final long[] comboAround = new long[MOST_COMBOS];
        private final int[] stateCombo = new int[MOST_STATES];
        private final int[] sizes = new int[MOST_UNITS];
        private final int[] weights = new int[MOST_UNITS];
        /** How far a unit's turn moves the state of all; NONE, if it may not be off, or on. */
        private final int[][] turnsOff = new int[MOST_UNITS][UNIT_STATES];
        private final int[][] turnsOn = new int[MOST_UNITS][UNIT_STATES];
        private long[] ahead = new long[MOST_STATES];
        private long[] behind = new long[MOST_STATES];
        private long[] spare = new long[MOST_STATES];
        private int units;
        private int states;
        private int combos;

        Search() {
            for (int c = 0; c < MOST_COMBOS; c++) {
                int rest = c;
                for (int u = 0; u < MOST_UNITS; u++) {
                    int act = rest % ACTS_OF_ONE;
                    comboOn[c] |= (act == OFF ? 0 : 1) << u;
                    comboStarting[c] |= (act == STARTS ? 1 : 0) << u;
                    rest /= ACTS_OF_ONE;
                }
            }
        }

        static int costOf(long best) {
            return best < 0 ? NONE : (int) (best >> PLAN_BITS);
        }

        static int unitsIn(long best, int hour) {
            return (int) (best >> shiftOf(hour)) & (1 << MOST_UNITS) - 1;
        }

        static int hoursOf(long best, int unit) {
            int hours = 0;
            for (int h = 0; h < MOST_HOURS; h++) {
                hours |= (unitsIn(best, h) >> unit & 1) << h;
            }
            return hours;
        }

        private static int shiftOf(int hour) {
            return MOST_UNITS * (MOST_HOURS - 1 - hour);
        }

        /** The best plan with one unit left out (-1: with all), as one number; NONE, if there is none. */
        long findBest(Day day, int without) {
            layStates(day, without);
            walk(day, day.hours);
            long least = FAR;
            for (int s = 0; s < states; s++) {
                if (ahead[s] < least) {
                    least = ahead[s];
                }
            }
            return least < FAR ? least : NONE;
        }

        /** For each combo of one hour: what is best in all others, so that demands can be tried there. */
        void lookAround(Day day, int hour) {
            layStates(day, -1);
            walk(day, hour);
            turnAll();
            walkBack(day, hour);
            Arrays.fill(comboAround, FAR);
            for (int s = 0; s < states; s++) {
                int c = stateCombo[s];
                comboAround[c] = Math.min(comboAround[c], ahead[s] + behind[s]);
            }
        }

        /** The cost of the best plan, were the demand of the hour looked around this one; or NONE. */
        int costAround(Day day, int demand) {
            int least = NONE;
            for (int c = 0; c < combos; c++) {
                if (comboAround[c] < FAR) {
                    int part = day.hourCost(demand, comboOn[c], comboStarting[c]);
                    int all = costOf(comboAround[c]) + part;
                    if (part != NONE && (least == NONE || all < least)) {
                        least = all;
                    }
                }
            }
            return least;
        }

        /** Through the hours ahead of one; at first all units are off long since, which is state 0. */
        private void walk(Day day, int to) {
            fillStates(ahead, FAR);
            ahead[0] = 0;
            for (int h = 0; h < to; h++) {
                turnAll();
                costCombos(day, h);
                addParts(ahead);
            }
        }

        /** From the end of the day back to behind an hour; no state is unlawful at the end. */
        private void walkBack(Day day, int to) {
            fillStates(behind, 0);
            for (int h = day.hours - 1; h > to; h--) {
                costCombos(day, h);
                addParts(behind);
                turnAllBack();
            }
        }

        private void fillStates(long[] row, long v) {
            for (int s = 0; s < states; s++) {
                row[s] = v;
            }
        }

        private void costCombos(Day day, int hour) {
            for (int c = 0; c < combos; c++) {
                int cost = day.hourCost(day.demands[hour], comboOn[c], comboStarting[c]);
                long plan = (long) comboOn[c] << shiftOf(hour);
                comboParts[c] = cost == NONE ? FAR : ((long) cost << PLAN_BITS) + plan;
            }
        }

        private void addParts(long[] row) {
            for (int s = 0; s < states; s++) {
                if (row[s] < FAR) {
                    long part = comboParts[stateCombo[s]];
                    row[s] = part < FAR ? row[s] + part : FAR;
                }
            }
        }

        /** The units turn one after the other, for what one may do does not hang on the others. */
        private void turnAll() {
            for (int u = 0; u < units; u++) {
                int[] off = turnsOff[u];
                int[] on = turnsOn[u];
                int weight = Math.max(weights[u], 1);
                int size = Math.max(sizes[u], 1);
                fillStates(spare, FAR);
                for (int s = 0; s < states; s++) {
                    long way = ahead[s];
                    if (way < FAR) {
                        int own = s / weight % size;
                        if (off[own] != NONE && way < spare[s + off[own]]) {
                            spare[s + off[own]] = way;
                        }
                        if (on[own] != NONE && way < spare[s + on[own]]) {
                            spare[s + on[own]] = way;
                        }
                    }
                }
                long[] old = ahead;
                ahead = spare;
                spare = old;
            }
        }

        private void turnAllBack() {
            for (int u = 0; u < units; u++) {
                int[] off = turnsOff[u];
                int[] on = turnsOn[u];
                int weight = Math.max(weights[u], 1);
                int size = Math.max(sizes[u], 1);
                for (int s = 0; s < states; s++) {
                    int own = s / weight % size;
                    long way = off[own] == NONE ? FAR : behind[s + off[own]];
                    if (on[own] != NONE && behind[s + on[own]] < way) {
                        way = behind[s + on[own]];
                    }
                    spare[s] = way;
                }
                long[] old = behind;
                behind = spare;
                spare = old;
            }
        }

        private void layStates(Day day, int without) {
            units = day.units;
            states = 1;
            combos = 1;
            stateCombo[0] = 0;
            for (int u = 0; u < units; u++) {
                weights[u] = states;
                if (u == without) {
                    layOnlyState(u, OFF);
                } else if (day.kinds[u] == RIVER) {
                    layOnlyState(u, STAYS);
                } else {
                    layUnitStates(u, day.ups[u], day.downs[u]);
                }
                states *= sizes[u];
                combos *= ACTS_OF_ONE;
            }
        }

        /** A river is told as one that stays on at all times: its start costs nothing and lowers no roof. */
        private void layOnlyState(int unit, int act) {
            sizes[unit] = 1;
            turnsOff[unit][0] = act == OFF ? 0 : NONE;
            turnsOn[unit][0] = act == OFF ? NONE : 0;
            layCombos(0, act);
        }

        /**
         * First the states of being off: it must be for 0, 1, .. hours more; then those of being on: it has been
         * for 1, 2, .. hours. There are two of these at least, for its first hour is not like the others.
         */
        private void layUnitStates(int unit, int up, int down) {
            int most = Math.max(up, 2);
            sizes[unit] = down + most;
            for (int k = most - 1; k >= 0; k--) {
                int own = down + k;
                turnsOn[unit][own] = (k < most - 1 ? 1 : 0) * states;
                turnsOff[unit][own] = k + 1 < up ? NONE : (down - 1 - own) * states;
                layCombos(own, k == 0 ? STARTS : STAYS);
            }
            for (int k = down - 1; k >= 0; k--) {
                turnsOff[unit][k] = k > 0 ? -states : 0;
                turnsOn[unit][k] = k > 0 ? NONE : down * states;
                layCombos(k, OFF);
            }
        }

        /** From the combos of the units ahead, which stand where state 0 of this one will: that is laid last. */
        private void layCombos(int own, int act) {
            for (int s = 0; s < states; s++) {
                stateCombo[own * states + s] = stateCombo[s] + act * combos;
            }
        }
    }

    /** What units would do by themselves for prices of the hours. */
    private static final class Lone {
        private final long[] prices = new long[MOST_HOURS];
        /** What all give together, in each hour, behind boundOf. */
        private final long[] given = new long[MOST_HOURS];
        /** The loss of each set of hours, whether it is lawful or not. */
        private final long[] losses = new long[1 << MOST_HOURS];
        /** Behind decide: the least loss, and the hours of it. */
        private long loss;
        private int on;

        void takePrices(int[] items, int from, int hours) {
            for (int h = 0; h < hours; h++) {
                prices[h] = items[from + h];
            }
        }

        void decide(Day day, int unit) {
            fillLosses(day, unit);
            on = -1;
            for (int set = 0; set <= day.allHours(); set++) {
                if ((on < 0 || losses[set] < loss) && day.keeps(unit, set)) {
                    on = set;
                    loss = losses[set];
                }
            }
        }

        /** A set of hours loses what it does without its last hour, and what that one adds. */
        private void fillLosses(Day day, int unit) {
            losses[0] = 0;
            for (int h = 0; h < day.hours; h++) {
                int last = 1 << h;
                long staying = lossIn(day, unit, h, false);
                long starting = lossIn(day, unit, h, true) + day.startCosts[unit];
                for (int set = 0; set < last; set++) {
                    boolean stays = (set & last >> 1) != 0;
                    losses[set | last] = losses[set] + (stays ? staying : starting);
                }
            }
        }

        private long lossIn(Day day, int unit, int hour, boolean isStarting) {
            return powerIn(day, unit, hour, isStarting) * (day.prices[unit] - prices[hour]);
        }

        private long powerIn(Day day, int unit, int hour, boolean isStarting) {
            if (day.prices[unit] >= prices[hour]) {
                return day.floors[unit];
            }
            return isStarting ? day.startRoofs[unit] : day.highs[unit];
        }

        /** What a unit gives in an hour, by the hours that were decided. */
        long givenIn(Day day, int unit, int hour) {
            if ((on >> hour & 1) == 0) {
                return 0;
            }
            return powerIn(day, unit, hour, (startsAmong(on) >> hour & 1) == 1);
        }

        long boundOf(Day day) {
            long sum = 0;
            for (int h = 0; h < day.hours; h++) {
                sum += day.demands[h] * prices[h];
                given[h] = 0;
            }
            for (int u = 0; u < day.units; u++) {
                decide(day, u);
                sum += loss;
                for (int h = 0; h < day.hours; h++) {
                    given[h] += givenIn(day, u, h);
                }
            }
            return sum;
        }

        /** Moves the prices n times from 0 on: the greatest bound of all; the last prices stay here. */
        long movePrices(Day day, int n) {
            Arrays.fill(prices, 0);
            long greatest = boundOf(day);
            for (int k = 0; k < n; k++) {
                for (int h = 0; h < day.hours; h++) {
                    prices[h] = Math.max(0, prices[h] + day.demands[h] - given[h]);
                }
                greatest = Math.max(greatest, boundOf(day));
            }
            return greatest;
        }
    }

    /** The asks of a unit, and the trace that their bodies leave. */
    private static final class Asks {
        private static final int MOST_LEFT = 16;

        private final int[] left = new int[MOST_LEFT];
        private int length;
        private int number;
        private int kind;
        private int high;
        private int hoursOn;

        void begin(Day day, int unit) {
            length = 0;
            number = unit;
            kind = day.kinds[unit];
            high = day.highs[unit];
            hoursOn = Integer.bitCount(day.on[unit]);
        }

        int sizeOf() {
            switch (kind) {
                case QUICK:
                    leave(12);
                    return -sizeOfPlain();
                case WATER:
                case RIVER:
                    return sizeOfWaters();
                default:
                    return sizeOfPlain();
            }
        }

        int markOf() {
            return kind == WATER || kind == RIVER ? markOfWater() : markOfPlains();
        }

        /** SIZE asked of a unit that is known to be WATER; so no ask ever comes back to itself. */
        private int sizeOfWaters() {
            if (kind == RIVER) {
                leave(14);
                return 2 * sizeOfWater();
            }
            return sizeOfWater();
        }

        /** MARK asked of a unit that is known to be PLAIN, likewise. */
        private int markOfPlains() {
            switch (kind) {
                case QUICK:
                    leave(24);
                    return 2 * markOfPlain();
                case SLOW:
                    leave(22);
                    return markOfPlain() - 1000;
                default:
                    return markOfPlain();
            }
        }

        private int sizeOfPlain() {
            leave(11);
            int lent = sizeLent();
            return lent + markOfPlains();
        }

        private int sizeOfWater() {
            leave(13);
            return sizeLent() - 100;
        }

        private int sizeLent() {
            leave(10);
            return high;
        }

        private int markOfPlain() {
            leave(21);
            return markLent() + hoursOn;
        }

        private int markOfWater() {
            leave(23);
            int lent = markLent();
            return lent - sizeOfWaters();
        }

        private int markLent() {
            leave(20);
            return number;
        }

        private void leave(int body) {
            if (length < MOST_LEFT) {
                left[length] = body;
                length++;
            }
        }
    }
}
