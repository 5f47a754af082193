import java.util.Random;

/** Random runs of calls, good ones, edges and wrong ones, each answer held against the Oracle. */
public final class FuzzTest {
    private static final Due DUE = new Due("FuzzTest");

    private final Random random;
    private final HaulFlows x = new HaulFlows();
    private final Oracle o = new Oracle();
    private final int seed;
    /** How far apart things lie: with few places there are many ties. */
    private final int style;
    private int calls;

    private FuzzTest(int seed) {
        this.seed = seed;
        this.random = new Random(seed);
        this.style = seed % 4;
    }

    public static void main(String[] args) {
        int seeds = args.length > 0 ? Integer.parseInt(args[0]) : 320;
        for (int seed = 0; seed < seeds && DUE.clean(); seed++) {
            new FuzzTest(seed).go();
        }
        DUE.end();
    }

    private void go() {
        if (random.nextInt(4) > 0) {
            furnish();
        }
        while (calls < 512 && DUE.clean()) {
            if (random.nextInt(8) == 0) {
                change();
            } else if (random.nextInt(5) == 0) {
                run(random.nextInt(6) == 0 ? random.nextInt(100) - 2 : 96);
            } else {
                ask();
            }
            if (random.nextInt(120) == 0) {
                break;
            }
        }
    }

    private void furnish() {
        int cuts = random.nextInt(9);
        int fills = random.nextInt(9);
        int pits = random.nextInt(3) == 0 ? 0 : random.nextInt(5);
        int ways = random.nextInt(7);
        for (int i = 0; i < cuts; i++) {
            cut();
        }
        for (int i = 0; i < fills; i++) {
            fill();
        }
        for (int i = 0; i < pits; i++) {
            borrow();
        }
        for (int i = 0; i < ways; i++) {
            way();
        }
        for (int i = random.nextInt(5); i > 0; i--) {
            bar();
            fits();
        }
        if (random.nextInt(3) == 0) {
            most();
        }
        run(96);
        everything();
    }

    private void change() {
        switch (random.nextInt(8)) {
            case 0 -> cut();
            case 1 -> fill();
            case 2 -> swell();
            case 3 -> fits();
            case 4 -> way();
            case 5 -> bar();
            case 6 -> borrow();
            default -> most();
        }
    }

    private void ask() {
        switch (random.nextInt(9)) {
            case 0 -> moved(near(12), near(8), near(2));
            case 1 -> cost(near(3));
            case 2 -> dual(near(2), near(8), near(2));
            case 3 -> clash(near(8));
            case 4 -> closure(near(6), near(2));
            case 5 -> list(near(12), near(5), near(3));
            case 6 -> mass(metre(), near(4));
            case 7 -> level(near(8), near(2));
            default -> check();
        }
    }

    private void everything() {
        for (int s = 0; s < 12; s++) {
            for (int f = 0; f < 8; f++) {
                moved(s, f, 0);
            }
        }
        for (int i = 0; i < 8; i++) {
            dual(0, i, random.nextInt(2));
            dual(1, i, random.nextInt(2));
            clash(i);
        }
        closure(random.nextInt(6), 0);
        cost(0);
        check();
    }

    private void cut() {
        long volume = volume();
        int kind = near(4);
        int week = random.nextBoolean() ? 0 : near(12);
        long metre = metre();
        is("cut", Due.answer(() -> x.cut(volume, kind, week, metre)), o.cut(volume, kind, week, metre),
                volume, kind, week, metre);
    }

    private void fill() {
        long volume = volume();
        int week = near(12);
        long metre = metre();
        is("fill", Due.answer(() -> x.fill(volume, week, metre)), o.fill(volume, week, metre), volume, week, metre);
    }

    private void swell() {
        int kind = near(4);
        long above = random.nextInt(4) == 0 ? edge(1, 1000) : 1 + random.nextInt(5);
        long below = random.nextInt(4) == 0 ? edge(1, 1000) : 1 + random.nextInt(5);
        is("swell", Due.answer(() -> x.swell(kind, above, below) ? 1 : 0), o.swell(kind, above, below) ? 1 : 0,
                kind, above, below);
    }

    private void fits() {
        int kind = near(4);
        int fill = near(8);
        boolean on = random.nextInt(3) == 0;
        is("fits", Due.answer(() -> x.fits(kind, fill, on) ? 1 : 0), o.fits(kind, fill, on) ? 1 : 0,
                kind, fill, on ? 1 : 0);
    }

    private void way() {
        long from = metre();
        long to = metre();
        long cents = cents();
        is("way", Due.answer(() -> x.way(from, to, cents)), o.way(from, to, cents), from, to, cents);
    }

    private void bar() {
        int way = near(6);
        int from = near(12);
        int to = near(12);
        is("bar", Due.answer(() -> x.bar(way, from, to) ? 1 : 0), o.bar(way, from, to) ? 1 : 0, way, from, to);
    }

    private void borrow() {
        long metre = metre();
        long cents = cents();
        is("borrow", Due.answer(() -> x.borrow(metre, cents)), o.borrow(metre, cents), metre, cents);
    }

    private void most() {
        int week = near(12);
        long volume = random.nextInt(6) == 0 ? edge(0, 10000000) : random.nextInt(3) == 0 ? volume()
                : volume() + volume() + volume();
        is("most", Due.answer(() -> x.most(week, volume) ? 1 : 0), o.most(week, volume) ? 1 : 0, week, volume);
    }

    private void run(int steps) {
        is("run", Due.run(x, steps), o.run(steps), steps);
    }

    private void moved(int source, int fill, int part) {
        is("moved", Due.answer(() -> x.moved(source, fill, part)), o.moved(source, fill, part), source, fill, part);
    }

    private void cost(int part) {
        is("cost", Due.answer(() -> x.cost(part)), o.cost(part), part);
    }

    private void dual(int side, int k, int part) {
        is("dual", Due.answer(() -> x.dual(side, k, part)), o.dual(side, k, part), side, k, part);
    }

    private void clash(int k) {
        is("clash", Due.answer(() -> x.clash(k)), o.clash(k), k);
    }

    private void closure(int way, int part) {
        is("closure", Due.answer(() -> x.closure(way, part)), o.closure(way, part), way, part);
    }

    private void list(int week, int k, int what) {
        is("list", Due.answer(() -> x.list(week, k, what)), o.list(week, k, what), week, k, what);
    }

    private void mass(long metre, int part) {
        is("mass", Due.answer(() -> x.mass(metre, part)), o.mass(metre, part), metre, part);
    }

    private void level(int cut, int part) {
        is("level", Due.answer(() -> x.level(cut, part)), o.level(cut, part), cut, part);
    }

    private void check() {
        is("check", Due.answer(x::check), o.check());
    }

    private void is(String name, long got, long want, long... args) {
        calls++;
        DUE.is("seed " + seed + ", call " + calls + ": " + name + java.util.Arrays.toString(args), got, want);
    }

    /** Mostly 0 .. count - 1, now and then just outside, or far outside. */
    private int near(int count) {
        int dice = random.nextInt(60);
        if (dice == 0) {
            return count;
        }
        if (dice == 1) {
            return -1;
        }
        if (dice == 2) {
            return random.nextInt();
        }
        return random.nextInt(count);
    }

    private long edge(long low, long high) {
        long[] edges = {low - 1, low, low + 1, high - 1, high, high + 1, Long.MIN_VALUE, Long.MAX_VALUE,
            1L << 32, (1L << 32) + 1};
        return edges[random.nextInt(edges.length)];
    }

    private long volume() {
        if (random.nextInt(40) == 0) {
            return edge(1, 1000000);
        }
        return 1 + random.nextInt(style == 0 ? 3 : style == 1 ? 20 : style == 2 ? 1000 : 1000000);
    }

    private long metre() {
        if (random.nextInt(40) == 0) {
            return edge(0, 100000);
        }
        return style == 0 ? random.nextInt(3) : style == 1 ? 10 * random.nextInt(5)
                : style == 2 ? random.nextInt(100) : random.nextInt(100001);
    }

    private long cents() {
        if (random.nextInt(40) == 0) {
            return edge(0, 100000);
        }
        return style == 0 ? random.nextInt(2) : style == 1 ? 5 * random.nextInt(4)
                : style == 2 ? random.nextInt(30) : random.nextInt(20000);
    }
}
