import java.util.ArrayDeque;
import java.util.ArrayList;
import java.util.Arrays;
import java.util.Deque;
import java.util.List;

/**
 * The document told once more, as plainly and slowly as can be, to hold the class against: plans are tried
 * one after the other, texts are cut into tokens first, acts keep whole days.
 */
final class Model {
    static final int NONE = -1000000, BAD = -1000001, STATE = -1000002, FULL = -1000003;

    static final class Unit {
        int kind, low, high, price, start, up, down, on;

        Unit twin() {
            Unit u = new Unit();
            u.kind = kind;
            u.low = low;
            u.high = high;
            u.price = price;
            u.start = start;
            u.up = up;
            u.down = down;
            u.on = on;
            return u;
        }

        int floor() {
            return kind >= 4 ? 0 : low;
        }

        int roof(boolean starts) {
            return kind == 3 && starts ? low : high;
        }

        int startCost() {
            return kind >= 4 ? 0 : kind == 2 ? start / 2 : start;
        }

        /** By the runs of a text such as 011001, as the document words it. */
        boolean keeps(int on, int hours) {
            StringBuilder b = new StringBuilder();
            for (int h = 0; h < hours; h++) {
                b.append((on >> h & 1) == 1 ? '1' : '0');
            }
            String text = b.toString();
            if (kind == 5) {
                return text.indexOf('0') < 0;
            }
            int h = 0;
            while (h < hours) {
                int end = h;
                while (end < hours && text.charAt(end) == text.charAt(h)) {
                    end++;
                }
                boolean atEnd = end == hours;
                if (text.charAt(h) == '1' && end - h < up && !atEnd) {
                    return false;
                }
                if (text.charAt(h) == '0' && h > 0 && !atEnd && end - h < down) {
                    return false;
                }
                h = end;
            }
            return true;
        }
    }

    static final class Day {
        int reserve;
        List<Integer> demands = new ArrayList<>();
        List<Unit> units = new ArrayList<>();

        Day twin() {
            Day d = new Day();
            d.reserve = reserve;
            d.demands.addAll(demands);
            for (Unit u : units) {
                d.units.add(u.twin());
            }
            return d;
        }

        int hours() {
            return demands.size();
        }

        boolean met(int h, int on, int starts) {
            int floors = 0, roofs = 0;
            for (int u = 0; u < units.size(); u++) {
                if ((on >> u & 1) == 1) {
                    floors += units.get(u).floor();
                    roofs += units.get(u).roof((starts >> u & 1) == 1);
                }
            }
            return floors <= demands.get(h) && roofs >= demands.get(h) + reserve;
        }

        /** One unit of power after the other goes to the cheapest that has room. */
        int[] given(int h, int on, int starts) {
            int[] given = new int[units.size()];
            int sum = 0;
            for (int u = 0; u < given.length; u++) {
                if ((on >> u & 1) == 1) {
                    given[u] = units.get(u).floor();
                    sum += given[u];
                }
            }
            while (sum < demands.get(h)) {
                int cheapest = -1;
                for (int u = 0; u < given.length; u++) {
                    boolean hasRoom = (on >> u & 1) == 1
                            && given[u] < units.get(u).roof((starts >> u & 1) == 1);
                    if (hasRoom && (cheapest < 0 || units.get(u).price < units.get(cheapest).price)) {
                        cheapest = u;
                    }
                }
                given[cheapest]++;
                sum++;
            }
            return given;
        }

        int hourCost(int h, int on, int starts) {
            int cost = 0;
            int[] given = given(h, on, starts);
            for (int u = 0; u < given.length; u++) {
                cost += given[u] * units.get(u).price;
                cost += (starts >> u & 1) * units.get(u).startCost();
            }
            return cost;
        }

        int onIn(int h) {
            int on = 0;
            for (int u = 0; u < units.size(); u++) {
                if (h >= 0 && (units.get(u).on >> h & 1) == 1) {
                    on |= 1 << u;
                }
            }
            return on;
        }

        int startsIn(int h) {
            return onIn(h) & ~onIn(h - 1);
        }

        int cost() {
            int cost = 0;
            for (int h = 0; h < hours(); h++) {
                if (!met(h, onIn(h), startsIn(h))) {
                    return NONE;
                }
                cost += hourCost(h, onIn(h), startsIn(h));
            }
            for (Unit u : units) {
                if (!u.keeps(u.on, hours())) {
                    return NONE;
                }
            }
            return cost;
        }
    }

    /** All plans, by the units that are on in hour 0, then 1, ..; the first of the least cost stays. */
    static final class Best {
        final Day day;
        final int without;
        int cost = NONE;
        int[] plan;

        Best(Day day, int without) {
            this.day = day;
            this.without = without;
            tryFrom(0, 0, new int[day.hours()]);
        }

        private void tryFrom(int h, int soFar, int[] on) {
            if (cost != NONE && soFar >= cost) {
                return;
            }
            if (h == day.hours()) {
                if (allKeep(on)) {
                    cost = soFar;
                    plan = on.clone();
                }
                return;
            }
            for (int m = 0; m < 1 << day.units.size(); m++) {
                int starts = h == 0 ? m : m & ~on[h - 1];
                if (day.met(h, m, starts)) {
                    on[h] = m;
                    tryFrom(h + 1, soFar + day.hourCost(h, m, starts), on);
                }
            }
        }

        private boolean allKeep(int[] on) {
            for (int u = 0; u < day.units.size(); u++) {
                int hours = 0;
                for (int h = 0; h < on.length; h++) {
                    hours |= (on[h] >> u & 1) << h;
                }
                boolean keeps = u == without ? hours == 0 : day.units.get(u).keeps(hours, on.length);
                if (!keeps) {
                    return false;
                }
            }
            return true;
        }
    }

    static final class Row {
        int lane;
        int[] items;
    }

    Row[] rows = new Row[8];
    List<Integer> tape = new ArrayList<>();
    Day day;
    Day[] images = new Day[2];
    Deque<Day> acts = new ArrayDeque<>();
    List<Integer> trace = new ArrayList<>();
    int fault, status;

    // ---- rows

    private int finding(int n) {
        status = n;
        return -1000010 - n;
    }

    private long fine(long answer) {
        status = 0;
        return answer;
    }

    private boolean isRow(int row) {
        return row >= 0 && row <= 7;
    }

    long row(int row, int lane, int n) {
        if (!isRow(row) || lane < 0 || lane > 2 || n > 40) {
            return BAD;
        }
        if (n < 0) {
            return finding(4);
        }
        rows[row] = new Row();
        rows[row].lane = lane;
        rows[row].items = new int[n];
        return fine(n);
    }

    long set(int row, int i, int v) {
        if (!isRow(row)) {
            return BAD;
        }
        if (rows[row] == null) {
            return finding(1);
        }
        if (i < 0 || i >= rows[row].items.length) {
            return finding(2);
        }
        int bits = new int[] {8, 16, 32}[rows[row].lane];
        rows[row].items[i] = v << 32 - bits >> 32 - bits;
        return fine(rows[row].items[i]);
    }

    long copy(int a, int i, int b, int j, int n) {
        if (!isRow(a) || !isRow(b)) {
            return BAD;
        }
        if (rows[a] == null || rows[b] == null) {
            return finding(1);
        }
        if (rows[a].lane != rows[b].lane) {
            return finding(5);
        }
        if (i < 0 || j < 0 || n < 0 || (long) i + n > rows[a].items.length || (long) j + n > rows[b].items.length) {
            return finding(2);
        }
        int[] ahead = rows[a].items.clone();
        for (int k = 0; k < n; k++) {
            rows[b].items[j + k] = ahead[i + k];
        }
        return fine(n);
    }

    long drop(int row) {
        if (!isRow(row)) {
            return BAD;
        }
        if (rows[row] == null) {
            return finding(1);
        }
        int had = rows[row].items.length;
        rows[row] = null;
        return fine(had);
    }

    // ---- days, acts

    long feed(int letter) {
        if (letter < 0 || letter > 255) {
            return BAD;
        }
        if (tape.size() == 120) {
            return FULL;
        }
        tape.add(letter);
        return tape.size();
    }

    /** Tokens: a letter or sign stands for itself; n12 a number; ? what is none; . the end. */
    private List<String> tokens = new ArrayList<>();
    private List<Integer> places = new ArrayList<>();
    private int next;

    private static final class Fault extends RuntimeException {
        final int number, place;

        Fault(int number, int place) {
            this.number = number;
            this.place = place;
        }
    }

    private void cut() {
        tokens.clear();
        places.clear();
        next = 0;
        int at = 0;
        while (at < tape.size()) {
            int c = tape.get(at);
            int end = at;
            while (end < tape.size() && tape.get(end) >= 48 && tape.get(end) <= 57) {
                end++;
            }
            places.add(at);
            if (end > at) {
                StringBuilder figures = new StringBuilder();
                for (int k = at; k < end; k++) {
                    figures.append((char) (int) tape.get(k));
                }
                tokens.add(end - at > 2 ? "?" : "n" + figures);
                at = end;
            } else {
                tokens.add(c >= 97 && c <= 122 || c == 44 || c == 59 ? "" + (char) c : "?");
                at++;
            }
        }
        tokens.add(".");
        places.add(tape.size());
    }

    private String take(String allowed) {
        String t = tokens.get(next);
        if (t.length() != 1 || allowed.indexOf(t.charAt(0)) < 0) {
            throw new Fault(1, places.get(next));
        }
        next++;
        return t;
    }

    private int number(int least, int most) {
        String t = tokens.get(next);
        if (t.length() < 2) {
            throw new Fault(1, places.get(next));
        }
        int v = Integer.parseInt(t.substring(1));
        if (v < least || v > most) {
            throw new Fault(2, places.get(next));
        }
        next++;
        return v;
    }

    private Day parse() {
        Day d = new Day();
        take("v");
        d.reserve = number(0, 20);
        take(";");
        boolean inUnits = false;
        while (d.units.isEmpty() || !tokens.get(next).equals(".")) {
            String allowed = inUnits ? "pqswr" : d.demands.isEmpty() ? "h" : "hpqswr";
            int letterAt = places.get(next);
            String letter = take(allowed);
            if (letter.equals("h")) {
                if (d.demands.size() == 6) {
                    throw new Fault(3, letterAt);
                }
                d.demands.add(number(0, 60));
                take(";");
            } else {
                inUnits = true;
                if (d.units.size() == 4) {
                    throw new Fault(3, letterAt);
                }
                Unit u = new Unit();
                u.kind = 1 + "pqswr".indexOf(letter);
                u.low = number(0, 20);
                take(",");
                u.high = number(u.low, 30);
                take(",");
                u.price = number(1, 9);
                take(",");
                u.start = number(0, 40);
                take(",");
                u.up = number(1, 3);
                take(",");
                u.down = number(1, 3);
                take(";");
                d.units.add(u);
            }
        }
        return d;
    }

    long day() {
        cut();
        tape.clear();
        try {
            day = parse();
        } catch (Fault f) {
            fault = f.number;
            return -1000100 - f.place;
        }
        acts.clear();
        return day.units.size();
    }

    long fault() {
        return fault;
    }

    private boolean isUnit(int unit) {
        return day != null && unit >= 0 && unit < day.units.size();
    }

    private boolean isHour(int hour) {
        return day != null && hour >= 0 && hour < day.hours();
    }

    private void act() {
        acts.addLast(day.twin());
        if (acts.size() > 16) {
            acts.removeFirst();
        }
    }

    long run(int unit, int hours) {
        if (!isUnit(unit) || hours < 0 || hours >= 1 << day.hours()) {
            return BAD;
        }
        int was = day.units.get(unit).on;
        if (was == hours) {
            return STATE;
        }
        act();
        day.units.get(unit).on = hours;
        return was;
    }

    long layBest() {
        if (day == null) {
            return STATE;
        }
        Best best = new Best(day, -1);
        if (best.cost == NONE) {
            return NONE;
        }
        act();
        for (int u = 0; u < day.units.size(); u++) {
            day.units.get(u).on = 0;
            for (int h = 0; h < day.hours(); h++) {
                day.units.get(u).on |= (best.plan[h] >> u & 1) << h;
            }
        }
        return best.cost;
    }

    long demand(int hour, int v) {
        if (!isHour(hour) || v < 0 || v > 60) {
            return BAD;
        }
        act();
        return day.demands.set(hour, v);
    }

    long reserve(int v) {
        if (day == null) {
            return STATE;
        }
        if (v < 0 || v > 20) {
            return BAD;
        }
        act();
        int was = day.reserve;
        day.reserve = v;
        return was;
    }

    long price(int unit, int v) {
        if (!isUnit(unit) || v < 1 || v > 9) {
            return BAD;
        }
        act();
        int was = day.units.get(unit).price;
        day.units.get(unit).price = v;
        return was;
    }

    long become(int unit, int kind) {
        if (!isUnit(unit) || kind < 1 || kind > 5) {
            return BAD;
        }
        int was = day.units.get(unit).kind;
        if (was == kind) {
            return STATE;
        }
        act();
        day.units.get(unit).kind = kind;
        return was;
    }

    long undo() {
        if (acts.isEmpty()) {
            return STATE;
        }
        day = acts.removeLast();
        return acts.size();
    }

    long unit(int unit, int what) {
        if (!isUnit(unit) || what < 0 || what > 8) {
            return BAD;
        }
        Unit u = day.units.get(unit);
        int starts = 0;
        for (int h = 0; h < day.hours(); h++) {
            starts |= (day.startsIn(h) >> unit & 1) << h;
        }
        return new int[] {u.low, u.high, u.price, u.start, u.up, u.down, u.on, starts,
            u.keeps(u.on, day.hours()) ? 1 : 0}[what];
    }

    long hour(int hour, int what) {
        if (!isHour(hour) || what < 0 || what > 4) {
            return BAD;
        }
        int floors = 0, roofs = 0;
        for (int u = 0; u < day.units.size(); u++) {
            if ((day.units.get(u).on >> hour & 1) == 1) {
                floors += day.units.get(u).floor();
                roofs += day.units.get(u).roof((day.startsIn(hour) >> u & 1) == 1);
            }
        }
        return new int[] {day.demands.get(hour), day.onIn(hour), floors, roofs,
            day.met(hour, day.onIn(hour), day.startsIn(hour)) ? 1 : 0}[what];
    }

    long gives(int unit, int hour) {
        if (!isUnit(unit) || !isHour(hour)) {
            return BAD;
        }
        if (!day.met(hour, day.onIn(hour), day.startsIn(hour))) {
            return NONE;
        }
        return day.given(hour, day.onIn(hour), day.startsIn(hour))[unit];
    }

    long plan(int what) {
        if (day == null) {
            return STATE;
        }
        if (what < 0 || what > 4) {
            return BAD;
        }
        int notMet = 0, notKept = 0, starts = 0;
        for (int h = 0; h < day.hours(); h++) {
            notMet |= (day.met(h, day.onIn(h), day.startsIn(h)) ? 0 : 1) << h;
            starts += Integer.bitCount(day.startsIn(h));
        }
        for (int u = 0; u < day.units.size(); u++) {
            notKept |= (day.units.get(u).keeps(day.units.get(u).on, day.hours()) ? 0 : 1) << u;
        }
        return new int[] {day.cost(), notMet, notKept, starts, day.reserve}[what];
    }

    // ---- foretold

    long best(int what) {
        if (day == null) {
            return STATE;
        }
        if (what < -1 || what >= day.hours()) {
            return BAD;
        }
        Best best = new Best(day, -1);
        return best.cost == NONE ? NONE : what < 0 ? best.cost : best.plan[what];
    }

    /** What a unit gives in each hour, were it on in these. */
    private long[] givenAlone(Unit u, long[] prices, int on) {
        long[] given = new long[prices.length];
        for (int h = 0; h < prices.length; h++) {
            if ((on >> h & 1) == 1) {
                boolean starts = h == 0 || (on >> h - 1 & 1) == 0;
                given[h] = u.price < prices[h] ? u.roof(starts) : u.floor();
            }
        }
        return given;
    }

    private long lossAlone(Unit u, long[] prices, int on) {
        long[] given = givenAlone(u, prices, on);
        long loss = 0;
        for (int h = 0; h < prices.length; h++) {
            loss += given[h] * u.price - given[h] * prices[h];
            boolean starts = (on >> h & 1) == 1 && (h == 0 || (on >> h - 1 & 1) == 0);
            loss += starts ? u.startCost() : 0;
        }
        return loss;
    }

    private int onAlone(Unit u, long[] prices) {
        int best = -1;
        for (int on = 0; on < 1 << prices.length; on++) {
            if (u.keeps(on, prices.length)
                    && (best < 0 || lossAlone(u, prices, on) < lossAlone(u, prices, best))) {
                best = on;
            }
        }
        return best;
    }

    private long boundBy(long[] prices) {
        long bound = 0;
        for (int h = 0; h < prices.length; h++) {
            bound += day.demands.get(h) * prices[h];
        }
        for (Unit u : day.units) {
            bound += lossAlone(u, prices, onAlone(u, prices));
        }
        return bound;
    }

    private long[] pricesOf(int row, int i) {
        long[] prices = new long[day.hours()];
        for (int h = 0; h < prices.length; h++) {
            prices[h] = rows[row].items[i + h];
        }
        return prices;
    }

    long alone(int unit, int row, int i, int what) {
        if (!isUnit(unit) || !isRow(row) || what < -2 || what >= day.hours()) {
            return BAD;
        }
        if (rows[row] == null) {
            return finding(1);
        }
        if (i < 0 || (long) i + day.hours() > rows[row].items.length) {
            return finding(2);
        }
        long[] prices = pricesOf(row, i);
        Unit u = day.units.get(unit);
        int on = onAlone(u, prices);
        return fine(what == -2 ? lossAlone(u, prices, on) : what == -1 ? on : givenAlone(u, prices, on)[what]);
    }

    long bound(int row, int i) {
        if (day == null) {
            return STATE;
        }
        if (!isRow(row)) {
            return BAD;
        }
        if (rows[row] == null) {
            return finding(1);
        }
        if (i < 0 || (long) i + day.hours() > rows[row].items.length) {
            return finding(2);
        }
        return fine(boundBy(pricesOf(row, i)));
    }

    /** The prices at last, and behind them the greatest bound. */
    private long[] move(int n) {
        long[] prices = new long[day.hours()];
        long greatest = boundBy(prices);
        for (int k = 0; k < n; k++) {
            long[] later = prices.clone();
            for (int h = 0; h < prices.length; h++) {
                later[h] += day.demands.get(h);
                for (Unit u : day.units) {
                    later[h] -= givenAlone(u, prices, onAlone(u, prices))[h];
                }
                later[h] = Math.max(later[h], 0);
            }
            prices = later;
            greatest = Math.max(greatest, boundBy(prices));
        }
        long[] all = Arrays.copyOf(prices, prices.length + 1);
        all[prices.length] = greatest;
        return all;
    }

    long moved(int n, int what) {
        if (day == null) {
            return STATE;
        }
        if (n < 0 || n > 12 || what < -1 || what >= day.hours()) {
            return BAD;
        }
        return move(n)[what < 0 ? day.hours() : what];
    }

    long gap(int n) {
        if (day == null) {
            return STATE;
        }
        if (n < 0 || n > 12) {
            return BAD;
        }
        int cost = new Best(day, -1).cost;
        return cost == NONE ? NONE : cost - move(n)[day.hours()];
    }

    long more(int hour) {
        if (!isHour(hour)) {
            return BAD;
        }
        Day then = day.twin();
        then.demands.set(hour, then.demands.get(hour) + 1);
        int now = new Best(day, -1).cost;
        int later = new Best(then, -1).cost;
        return now == NONE || later == NONE ? NONE : later - now;
    }

    long wanted() {
        if (day == null) {
            return STATE;
        }
        if (new Best(day, -1).cost == NONE) {
            return NONE;
        }
        int wanted = 0;
        for (int u = 0; u < day.units.size(); u++) {
            wanted |= (new Best(day, u).cost == NONE ? 1 : 0) << u;
        }
        return wanted;
    }

    long who(int which, int x, int v) {
        if (day == null) {
            return STATE;
        }
        if (which < 0 || which > 3 || (which < 2 ? !isHour(x) : !isUnit(x)) || v < 0 || v > 99999) {
            return BAD;
        }
        int many = 0, least = NONE, set = 0;
        int from = which < 2 ? 0 : 1;
        int to = which < 2 ? 60 : which == 2 ? 5 : 9;
        for (int k = from; k <= to; k++) {
            Day then = day.twin();
            if (which < 2) {
                then.demands.set(x, k);
            } else if (which == 2) {
                then.units.get(x).kind = k;
            } else {
                then.units.get(x).price = k;
            }
            if (new Best(then, -1).cost == v) {
                many++;
                set |= k < 31 ? 1 << k : 0;
                least = least == NONE ? k : least;
            }
        }
        return which == 0 ? many : which == 1 ? least : set;
    }

    long fits(int unit, int row, int n) {
        if (!isUnit(unit) || !isRow(row) || n < 1 || n > day.hours()) {
            return BAD;
        }
        if (rows[row] == null) {
            return finding(1);
        }
        if (n > rows[row].items.length) {
            return finding(2);
        }
        int set = 0;
        for (int k = 1; k <= 5; k++) {
            Day then = day.twin();
            then.units.get(unit).kind = k;
            Best best = new Best(then, -1);
            boolean fits = best.cost != NONE;
            for (int h = 0; fits && h < n; h++) {
                fits = best.plan[h] == rows[row].items[h];
            }
            set |= (fits ? 1 : 0) << k;
        }
        return fine(set);
    }

    long drawn(int n, int seed, int what) {
        if (day == null) {
            return STATE;
        }
        if (n < 0 || n > 8 || seed < 1 || seed > 999999 || what < 0 || what > 1) {
            return BAD;
        }
        Day then = day.twin();
        long x = seed;
        int often = 0, cost = 0;
        for (int k = 0; k < n; k++) {
            x = x * 16807L % 2147483647L;
            then.demands.set((int) (x % then.hours()), (int) (x / 16 % 40));
            int c = new Best(then, -1).cost;
            often += c == NONE ? 0 : 1;
            cost += c == NONE ? 0 : c;
        }
        return what == 0 ? often : cost;
    }

    long image(int k) {
        if (k < 0 || k > 1) {
            return BAD;
        }
        if (day == null) {
            return STATE;
        }
        images[k] = day.twin();
        return 1;
    }

    long restore(int k) {
        if (k < 0 || k > 1) {
            return BAD;
        }
        if (images[k] == null) {
            return STATE;
        }
        day = images[k].twin();
        acts.clear();
        return 1;
    }

    // ---- asked

    /** Real kinds, so that which body begins is Java's own affair. */
    private interface AnyUnit {
        Model model();

        Unit told();

        int number();

        default void leave(int body) {
            if (model().trace.size() < 16) {
                model().trace.add(body);
            }
        }

        default int size() {
            leave(10);
            return told().high;
        }

        default int mark() {
            leave(20);
            return number();
        }
    }

    private abstract static class Told implements AnyUnit {
        Model model;
        Unit told;
        int number;

        public Model model() {
            return model;
        }

        public Unit told() {
            return told;
        }

        public int number() {
            return number;
        }
    }

    private static class Plain extends Told {
        public int size() {
            leave(11);
            int lent = super.size();
            return lent + mark();
        }

        public int mark() {
            leave(21);
            return super.mark() + Integer.bitCount(told.on);
        }
    }

    private static class Quick extends Plain {
        public int size() {
            leave(12);
            return -super.size();
        }

        public int mark() {
            leave(24);
            return super.mark() * 2;
        }
    }

    private static class Slow extends Plain {
        public int mark() {
            leave(22);
            return super.mark() - 1000;
        }
    }

    private static class Water extends Told {
        public int size() {
            leave(13);
            return super.size() - 100;
        }

        public int mark() {
            leave(23);
            int lent = super.mark();
            return lent - size();
        }
    }

    private static class River extends Water {
        public int size() {
            leave(14);
            return super.size() * 2;
        }
    }

    private Told asKind(int unit) {
        Told[] kinds = {null, new Plain(), new Quick(), new Slow(), new Water(), new River()};
        Told u = kinds[day.units.get(unit).kind];
        u.model = this;
        u.told = day.units.get(unit);
        u.number = unit;
        return u;
    }

    long kind(int unit) {
        return isUnit(unit) ? day.units.get(unit).kind : BAD;
    }

    long as(int unit, int kind) {
        if (!isUnit(unit) || kind < 0 || kind > 5) {
            return BAD;
        }
        Class<?>[] kinds = {AnyUnit.class, Plain.class, Quick.class, Slow.class, Water.class, River.class};
        return kinds[kind].isInstance(asKind(unit)) ? fine(unit) : finding(3);
    }

    long ask(int unit, int what) {
        if (!isUnit(unit) || what < 0 || what > 1) {
            return BAD;
        }
        trace.clear();
        return what == 0 ? asKind(unit).size() : asKind(unit).mark();
    }

    long trace(int i) {
        return i < 0 || i >= trace.size() ? NONE : trace.get(i);
    }

    long count(int what) {
        switch (what) {
            case 0:
                return Arrays.stream(rows).filter(r -> r != null).count();
            case 1:
                return day == null ? 0 : day.units.size();
            case 2:
                return day == null ? 0 : day.hours();
            case 3:
                return day == null ? 0 : day.demands.stream().mapToInt(d -> d).sum();
            case 4:
                return acts.size();
            case 5:
                return tape.size();
            default:
                return BAD;
        }
    }

    long status() {
        return status;
    }
}
