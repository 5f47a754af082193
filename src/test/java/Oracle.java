import java.math.BigInteger;
import java.util.ArrayList;
import java.util.Arrays;
import java.util.List;

/**
 * The document again, in the plainest way and without a thought for speed: every "what if" is solved
 * anew, and the order of plans is put into the costs as very large numbers.
 */
final class Oracle {
    private static final long BAD = -1;
    private static final long NO_BOUND = 1L << 50;

    private record Cut(long volume, int kind, int week, long metre) { }

    private record Fill(long volume, int week, long metre) { }

    private record Way(long from, long to, long cents, boolean[] barred) { }

    private record Pit(long metre, long cents) { }

    private final List<Cut> cuts = new ArrayList<>();
    private final List<Fill> fills = new ArrayList<>();
    private final List<Way> ways = new ArrayList<>();
    private final List<Pit> pits = new ArrayList<>();
    private final long[][] swells = {{1, 1}, {1, 1}, {1, 1}, {1, 1}};
    private final boolean[][] fit = new boolean[4][8];
    private final long[] mosts = new long[12];
    private long[][] plan;
    private List<Integer> clashes;

    Oracle() {
        Arrays.fill(mosts, NO_BOUND);
        for (boolean[] row : fit) {
            Arrays.fill(row, true);
        }
    }

    private static boolean in(long value, long low, long high) {
        return low <= value && value <= high;
    }

    private void changed() {
        plan = null;
        clashes = null;
    }

    long cut(long volume, int kind, int week, long metre) {
        if (!in(volume, 1, 1000000) || !in(kind, 0, 3) || !in(week, 0, 11) || !in(metre, 0, 100000)
                || cuts.size() == 8) {
            return BAD;
        }
        changed();
        cuts.add(new Cut(volume, kind, week, metre));
        return cuts.size() - 1;
    }

    long fill(long volume, int week, long metre) {
        if (!in(volume, 1, 1000000) || !in(week, 0, 11) || !in(metre, 0, 100000) || fills.size() == 8) {
            return BAD;
        }
        changed();
        fills.add(new Fill(volume, week, metre));
        return fills.size() - 1;
    }

    boolean swell(int kind, long above, long below) {
        if (!in(kind, 0, 3) || !in(above, 1, 1000) || !in(below, 1, 1000)) {
            return false;
        }
        changed();
        swells[kind] = new long[] {above, below};
        return true;
    }

    boolean fits(int kind, int fill, boolean on) {
        if (!in(kind, 0, 3) || !in(fill, 0, fills.size() - 1)) {
            return false;
        }
        changed();
        fit[kind][fill] = on;
        return true;
    }

    long way(long from, long to, long cents) {
        if (!in(from, 0, 100000) || !in(to, 0, 100000) || !in(cents, 0, 100000) || ways.size() == 6) {
            return BAD;
        }
        changed();
        ways.add(new Way(from, to, cents, new boolean[12]));
        return ways.size() - 1;
    }

    boolean bar(int way, int fromWeek, int toWeek) {
        if (!in(way, 0, ways.size() - 1) || !in(fromWeek, 0, 11) || !in(toWeek, 0, 11) || fromWeek > toWeek) {
            return false;
        }
        changed();
        Arrays.fill(ways.get(way).barred(), fromWeek, toWeek + 1, true);
        return true;
    }

    long borrow(long metre, long cents) {
        if (!in(metre, 0, 100000) || !in(cents, 0, 100000) || pits.size() == 4) {
            return BAD;
        }
        changed();
        pits.add(new Pit(metre, cents));
        return pits.size() - 1;
    }

    boolean most(int week, long volume) {
        if (!in(week, 0, 11) || !in(volume, 0, 10000000)) {
            return false;
        }
        changed();
        mosts[week] = volume;
        return true;
    }

    long run(int steps) {
        if (sources() * fills.size() > steps) {
            return Due.ILLEGAL_STATE;
        }
        long[] gives = gives();
        long[] wants = wants();
        Net net = net(gives, wants, -1, true);
        if (net.flow() == Arrays.stream(wants).sum()) {
            plan = amounts(net);
            clashes = null;
            return 0;
        }
        plan = null;
        clashes = new ArrayList<>();
        for (int f = 0; f < wants.length; f++) {
            // a fill is short in some greatest flow if one less for it costs nothing of the flow
            wants[f]--;
            if (net(gives, wants, -1, false).flow() == net.flow()) {
                clashes.add(f);
            }
            wants[f]++;
        }
        return 1;
    }

    long moved(int source, int fill, int part) {
        if (plan == null || !in(source, 0, sources() - 1) || !in(fill, 0, fills.size() - 1) || !in(part, 0, 1)) {
            return BAD;
        }
        long amount = plan[source][fill];
        return part == 0 || amount == 0 ? amount : amount * unit(source, fill, -1);
    }

    long cost(int part) {
        if (plan == null || !in(part, 0, 2)) {
            return BAD;
        }
        long sum = 0;
        for (int s = part == 2 ? cuts.size() : 0; s < sources(); s++) {
            for (int f = 0; f < fills.size(); f++) {
                sum += moved(s, f, part == 0 ? 1 : 0);
            }
        }
        return sum;
    }

    long dual(int side, int k, int part) {
        if (plan == null || !in(part, 0, 1) || !in(side, 0, 1)) {
            return BAD;
        }
        long[] gives = gives();
        long[] wants = wants();
        if (side == 0) {
            if (!in(k, 0, cuts.size() - 1) || gives[k] == 0) {
                return BAD;
            }
            gives[k]--;
        } else {
            if (!in(k, 0, fills.size() - 1)) {
                return BAD;
            }
            wants[k]++;
        }
        return change(gives, wants, -1, part);
    }

    long clash(int k) {
        return clashes == null || !in(k, 0, clashes.size() - 1) ? BAD : clashes.get(k);
    }

    long closure(int way, int part) {
        if (plan == null || !in(way, 0, ways.size() - 1) || !in(part, 0, 1)) {
            return BAD;
        }
        return change(gives(), wants(), way, part);
    }

    long list(int week, int k, int what) {
        if (plan == null || !in(week, 0, 11) || !in(what, 0, 2)) {
            return BAD;
        }
        List<long[]> moves = new ArrayList<>();
        for (int s = 0; s < sources(); s++) {
            for (int f = 0; f < fills.size(); f++) {
                if (fills.get(f).week() == week && plan[s][f] > 0) {
                    moves.add(new long[] {s, f, plan[s][f]});
                }
            }
        }
        return in(k, 0, moves.size() - 1) ? moves.get(k)[what] : BAD;
    }

    long mass(long metre, int part) {
        if (!in(metre, 0, 100000) || !in(part, 0, 3) || part > 1 && plan == null) {
            return BAD;
        }
        long sum = 0;
        if (part == 0) {
            for (int c = 0; c < cuts.size(); c++) {
                sum += cuts.get(c).metre() <= metre ? gives()[c] : 0;
            }
        } else if (part == 1) {
            for (Fill f : fills) {
                sum += f.metre() <= metre ? f.volume() : 0;
            }
        } else {
            for (int s = 0; s < sources(); s++) {
                for (int f = 0; f < fills.size(); f++) {
                    boolean from = metreOf(s) <= metre;
                    boolean to = fills.get(f).metre() <= metre;
                    sum += from == (part == 2) && to == (part == 3) ? plan[s][f] : 0;
                }
            }
        }
        return sum;
    }

    long check() {
        return plan == null ? BAD : 0;
    }

    long level(int cut, int part) {
        if (plan == null || !in(cut, 0, cuts.size() - 1) || !in(part, 0, 1)) {
            return BAD;
        }
        return gives()[cut] - (part == 0 ? Arrays.stream(plan[cut]).sum() : 0);
    }

    int sources() {
        return cuts.size() + pits.size();
    }

    private long[] gives() {
        long[] gives = new long[sources()];
        Arrays.fill(gives, NO_BOUND);
        for (int c = 0; c < cuts.size(); c++) {
            long[] swell = swells[cuts.get(c).kind()];
            gives[c] = cuts.get(c).volume() * swell[0] / swell[1];
        }
        return gives;
    }

    private long[] wants() {
        return fills.stream().mapToLong(Fill::volume).toArray();
    }

    private long metreOf(int source) {
        return source < cuts.size() ? cuts.get(source).metre() : pits.get(source - cuts.size()).metre();
    }

    private boolean serves(int source, int fill) {
        return source >= cuts.size() || fit[cuts.get(source).kind()][fill]
                && cuts.get(source).week() <= fills.get(fill).week();
    }

    private long unit(int source, int fill, int closed) {
        long a = metreOf(source);
        long b = fills.get(fill).metre();
        long least = Math.abs(a - b);
        for (int w = 0; w < ways.size(); w++) {
            Way way = ways.get(w);
            if (w != closed && !way.barred()[fills.get(fill).week()]) {
                least = Math.min(least, Math.abs(a - way.from()) + way.cents() + Math.abs(way.to() - b));
                least = Math.min(least, Math.abs(a - way.to()) + way.cents() + Math.abs(way.from() - b));
            }
        }
        return least + (source < cuts.size() ? 0 : pits.get(source - cuts.size()).cents());
    }

    private long change(long[] gives, long[] wants, int closed, int part) {
        Net net = net(gives, wants, closed, false);
        if (net.flow() < Arrays.stream(wants).sum()) {
            return 0;
        }
        long[][] amounts = amounts(net);
        long sum = 0;
        for (int s = 0; s < sources(); s++) {
            for (int f = 0; f < fills.size(); f++) {
                sum += amounts[s][f] == 0 ? 0 : amounts[s][f] * unit(s, f, closed);
            }
        }
        return part == 1 ? 1 : sum - cost(0);
    }

    /** The cheapest greatest flow; with the order of plans, each cell is worth all later ones. */
    private Net net(long[] gives, long[] wants, int closed, boolean inOrder) {
        int first = sources();
        int weeks = first + wants.length;
        int start = weeks + 12;
        Net net = new Net(start + 2, start, start + 1);
        int cells = inOrder ? first * wants.length : 0;
        for (int s = 0; s < first; s++) {
            net.edge(start, s, gives[s], BigInteger.ZERO);
            for (int f = 0; f < wants.length; f++) {
                if (serves(s, f)) {
                    BigInteger cents = BigInteger.valueOf(unit(s, f, closed)).shiftLeft(21 * cells);
                    int later = cells - 1 - (s * wants.length + f);
                    net.edge(s, first + f, NO_BOUND,
                            inOrder ? cents.subtract(BigInteger.ONE.shiftLeft(21 * later)) : cents);
                }
            }
        }
        for (int f = 0; f < wants.length; f++) {
            net.edge(first + f, weeks + fills.get(f).week(), wants[f], BigInteger.ZERO);
        }
        for (int w = 0; w < 12; w++) {
            net.edge(weeks + w, start + 1, mosts[w], BigInteger.ZERO);
        }
        net.solve();
        return net;
    }

    private long[][] amounts(Net net) {
        long[][] amounts = new long[sources()][fills.size()];
        for (int s = 0; s < sources(); s++) {
            for (int f = 0; f < fills.size(); f++) {
                amounts[s][f] = net.flowOn(s, sources() + f);
            }
        }
        return amounts;
    }

    /** Any network, by cheapest paths, each found by Bellman and Ford's way. */
    private static final class Net {
        private final int nodes;
        private final int start;
        private final int end;
        private final List<int[]> ends = new ArrayList<>();
        private final List<Long> rest = new ArrayList<>();
        private final List<BigInteger> cents = new ArrayList<>();
        private long flow;

        Net(int nodes, int start, int end) {
            this.nodes = nodes;
            this.start = start;
            this.end = end;
        }

        void edge(int from, int to, long capacity, BigInteger price) {
            ends.add(new int[] {from, to});
            rest.add(capacity);
            cents.add(price);
            ends.add(new int[] {to, from});
            rest.add(0L);
            cents.add(price.negate());
        }

        long flow() {
            return flow;
        }

        long flowOn(int from, int to) {
            for (int e = 0; e < ends.size(); e += 2) {
                if (ends.get(e)[0] == from && ends.get(e)[1] == to) {
                    return rest.get(e + 1);
                }
            }
            return 0;
        }

        void solve() {
            for (int[] path = path(); path[end] >= 0; path = path()) {
                long most = Long.MAX_VALUE;
                for (int n = end; n != start; n = ends.get(path[n])[0]) {
                    most = Math.min(most, rest.get(path[n]));
                }
                for (int n = end; n != start; n = ends.get(path[n])[0]) {
                    rest.set(path[n], rest.get(path[n]) - most);
                    rest.set(path[n] ^ 1, rest.get(path[n] ^ 1) + most);
                }
                flow += most;
            }
        }

        private int[] path() {
            BigInteger[] far = new BigInteger[nodes];
            int[] path = new int[nodes];
            Arrays.fill(path, -1);
            far[start] = BigInteger.ZERO;
            for (boolean better = true; better;) {
                better = false;
                for (int e = 0; e < ends.size(); e++) {
                    BigInteger from = far[ends.get(e)[0]];
                    if (from == null || rest.get(e) == 0) {
                        continue;
                    }
                    int to = ends.get(e)[1];
                    BigInteger by = from.add(cents.get(e));
                    if (far[to] == null || by.compareTo(far[to]) < 0) {
                        far[to] = by;
                        path[to] = e;
                        better = true;
                    }
                }
            }
            return path;
        }
    }
}
