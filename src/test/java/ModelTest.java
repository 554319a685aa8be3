import java.util.Random;

/** Random runs of calls, on the class and on the model; every answer must be the same. */
public final class ModelTest {
    private static final String[] CALLS = {"row", "set", "copy", "drop", "feed", "day", "fault", "run", "layBest",
        "demand", "reserve", "price", "become", "undo", "unit", "hour", "gives", "plan", "best", "alone", "bound",
        "moved", "gap", "more", "wanted", "who", "fits", "drawn", "image", "restore", "kind", "as", "ask", "trace",
        "count", "status"};
    private static final int[] WILD = {Integer.MIN_VALUE, Integer.MAX_VALUE, Integer.MAX_VALUE - 3, -1000, 1000,
        1 << 16, -(1 << 16), 255, 256, 99999, 100000};

    private final Check check;
    private final Random random;
    private UnitHours x;
    private Model m;
    private int calls;
    private String log;

    private ModelTest(Check check, long seed) {
        this.check = check;
        this.random = new Random(seed);
    }

    public static void main(String[] args) {
        Check check = new Check("ModelTest");
        int runs = args.length > 0 ? Integer.parseInt(args[0]) : 250;
        long first = args.length > 1 ? Long.parseLong(args[1]) : 0;
        for (int k = 0; k < runs; k++) {
            new ModelTest(check, first + k).oneRun(k);
        }
        check.finish();
    }

    /** Mostly small or lean days: the model tries all plans. */
    private void oneRun(int k) {
        x = new UnitHours();
        m = new Model();
        calls = 0;
        log = "run " + k;
        for (int part = 0; part < 3; part++) {
            for (int c = 0; c < random.nextInt(6); c++) {
                call(CALLS[random.nextInt(CALLS.length)]);
            }
            feedDay();
            call("day");
            int many = 20 + random.nextInt(60);
            for (int c = 0; c < many && calls < 500; c++) {
                call(CALLS[random.nextInt(CALLS.length)]);
            }
            for (int u = -1; u < 5 && calls < 500; u++) {
                for (int w = 0; w < 9 && calls < 500; w++) {
                    same("unit(" + u + "," + w + ")", x.unit(u, w), m.unit(u, w));
                }
            }
        }
    }

    private int in(int from, int to) {
        return from + random.nextInt(to - from + 1);
    }

    /** Mostly a number that fits, now and then one beside the edge, or a wild one. */
    private int arg(int from, int to) {
        int draw = random.nextInt(40);
        if (draw == 0) {
            return WILD[random.nextInt(WILD.length)];
        }
        return draw < 3 ? in(from - 2, to + 2) : in(from, to);
    }

    private void same(String call, long got, long want) {
        calls++;
        if (got != want) {
            System.out.println(log);
        }
        check.due(call, got, want);
    }

    private void feedDay() {
        StringBuilder text = new StringBuilder();
        int size = random.nextInt(12);
        int hours = size < 8 ? in(1, 4) : in(5, 6);
        int units = size < 8 ? in(1, 4) : in(1, size < 11 ? 3 : 4);
        text.append('v').append(in(0, random.nextInt(4) == 0 ? 20 : 4)).append(';');
        for (int h = 0; h < hours; h++) {
            text.append('h').append(in(0, random.nextInt(3) == 0 ? 60 : 10 * units)).append(';');
        }
        for (int u = 0; u < units; u++) {
            int low = in(0, random.nextInt(4) == 0 ? 20 : 5);
            int high = in(Math.max(low, 8), 30);
            text.append("pqswr".charAt(random.nextInt(5))).append(low).append(',').append(high).append(',');
            text.append(in(1, random.nextBoolean() ? 9 : 3)).append(',').append(in(0, random.nextBoolean() ? 40 : 3));
            text.append(',').append(in(1, 3)).append(',').append(in(1, 3)).append(';');
        }
        if (random.nextInt(6) == 0) {
            int at = random.nextInt(text.length());
            String signs = "vhpqswrx019,; A";
            char c = signs.charAt(random.nextInt(signs.length()));
            switch (random.nextInt(4)) {
                case 0: text.setCharAt(at, c); break;
                case 1: text.insert(at, c); break;
                case 2: text.deleteCharAt(at); break;
                default: text.setLength(at); break;
            }
        }
        for (int k = 0; k < text.length(); k++) {
            same("feed", x.feed(text.charAt(k)), m.feed(text.charAt(k)));
        }
    }

    private void call(String name) {
        int hours = (int) Math.max(1, m.count(2)), units = (int) Math.max(1, m.count(1));
        int h = arg(0, hours - 1), u = arg(0, units - 1), r = arg(0, 3);
        int a = 0, b = 0, c = 0, d = 0;
        log = log + "\n" + name + " " + u + " " + h + " " + r;
        switch (name) {
            case "row":
                same(name, x.row(r, a = arg(0, 2), b = arg(0, 12)), m.row(r, a, b));
                break;
            case "set":
                a = arg(0, 8);
                b = random.nextInt(4) == 0 ? random.nextInt() : in(-2, 20);
                same(name, x.set(r, a, b), m.set(r, a, b));
                break;
            case "copy":
                a = arg(0, 5);
                b = arg(0, 3);
                c = arg(0, 5);
                d = arg(0, 6);
                same(name, x.copy(r, a, b, c, d), m.copy(r, a, b, c, d));
                break;
            case "drop":
                same(name, x.drop(r), m.drop(r));
                break;
            case "feed":
                a = arg(0, 255);
                if (random.nextInt(6) == 0) {
                    same(name, x.feed(a), m.feed(a));
                }
                break;
            case "day":
                same(name, x.day(), m.day());
                break;
            case "fault":
                same(name, x.fault(), m.fault());
                break;
            case "run":
                same(name, x.run(u, a = arg(0, (1 << hours) - 1)), m.run(u, a));
                break;
            case "layBest":
                same(name, x.layBest(), m.layBest());
                break;
            case "demand":
                same(name, x.demand(h, a = arg(0, in(20, 60))), m.demand(h, a));
                break;
            case "reserve":
                same(name, x.reserve(a = arg(0, in(2, 20))), m.reserve(a));
                break;
            case "price":
                same(name, x.price(u, a = arg(1, 9)), m.price(u, a));
                break;
            case "become":
                same(name, x.become(u, a = arg(1, 5)), m.become(u, a));
                break;
            case "undo":
                same(name, x.undo(), m.undo());
                break;
            default:
                look(name, u, h, r);
                break;
        }
        log = log + " | " + a + " " + b + " " + c + " " + d;
    }

    private void look(String name, int u, int h, int r) {
        int a = 0, b = 0;
        switch (name) {
            case "unit":
                same(name, x.unit(u, a = arg(0, 8)), m.unit(u, a));
                break;
            case "hour":
                same(name, x.hour(h, a = arg(0, 4)), m.hour(h, a));
                break;
            case "gives":
                same(name, x.gives(u, h), m.gives(u, h));
                break;
            case "plan":
                same(name, x.plan(a = arg(0, 4)), m.plan(a));
                break;
            case "best":
                for (int w = -1; w < 6; w++) {
                    same(name, x.best(w), m.best(w));
                }
                break;
            case "alone":
                a = arg(0, 3);
                b = arg(-2, 5);
                same(name, x.alone(u, r, a, b), m.alone(u, r, a, b));
                break;
            case "bound":
                same(name, x.bound(r, a = arg(0, 3)), m.bound(r, a));
                break;
            case "moved":
                a = arg(0, 12);
                b = arg(-1, 5);
                same(name, x.moved(a, b), m.moved(a, b));
                break;
            case "gap":
                same(name, x.gap(a = arg(0, 12)), m.gap(a));
                break;
            case "more":
                same(name, x.more(h), m.more(h));
                break;
            case "wanted":
                same(name, x.wanted(), m.wanted());
                break;
            case "who":
                who(u, h);
                break;
            case "fits":
                fits(u, r);
                break;
            case "drawn":
                a = arg(0, 8);
                b = arg(1, 999999);
                int w = arg(0, 1);
                same(name, x.drawn(a, b, w), m.drawn(a, b, w));
                break;
            case "image":
                same(name, x.image(a = arg(0, 1)), m.image(a));
                break;
            case "restore":
                if (random.nextInt(3) == 0) {
                    same(name, x.restore(a = arg(0, 1)), m.restore(a));
                }
                break;
            default:
                asked(name, u);
                break;
        }
    }

    /** Costs that are near what is best are the ones that some demand, kind or price has. */
    private void who(int u, int h) {
        int which = arg(0, 3);
        int at = which < 2 ? h : u;
        long now = m.best(-1);
        int v = now >= 0 && random.nextInt(4) > 0 ? (int) now + (random.nextBoolean() ? 0 : in(-5, 20)) : arg(0, 99999);
        same("who " + which + " " + at + " " + v, x.who(which, at, v), m.who(which, at, v));
    }

    private void fits(int u, int r) {
        int n = arg(1, (int) Math.max(1, m.count(2)));
        if (random.nextInt(3) > 0 && r >= 0 && r < 8 && m.best(-1) >= 0) {
            same("row", x.row(r, 2, 6), m.row(r, 2, 6));
            for (int k = 0; k < m.count(2); k++) {
                int on = (int) m.best(k);
                same("set", x.set(r, k, on), m.set(r, k, on));
            }
        }
        same("fits", x.fits(u, r, n), m.fits(u, r, n));
    }

    private void asked(String name, int u) {
        int a = 0;
        switch (name) {
            case "kind":
                same(name, x.kind(u), m.kind(u));
                break;
            case "as":
                same(name, x.as(u, a = arg(0, 5)), m.as(u, a));
                break;
            case "ask":
                same(name, x.ask(u, a = arg(0, 1)), m.ask(u, a));
                break;
            case "trace":
                same(name, x.trace(a = arg(0, 6)), m.trace(a));
                break;
            case "count":
                same(name, x.count(a = arg(0, 5)), m.count(a));
                break;
            default:
                same(name, x.status(), m.status());
                break;
        }
    }
}
