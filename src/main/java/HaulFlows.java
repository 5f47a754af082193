import java.util.Arrays;

/** Earth that is moved for a road, from cuts and borrow pits to fills, at the least cost. */
public final class HaulFlows {
    public static final int BAD = -1, NONE = -2;

    private static final int CUTS = 8, PITS = 4, SOURCES = CUTS + PITS, FILLS = 8, WAYS = 6;
    private static final int KINDS = 4, WEEKS = 12;
    private static final long MAX_VOLUME = 1_000_000L, MAX_METRE = 100_000L, MAX_CENTS = 100_000L;
    private static final long MAX_SWELL = 1_000L, MAX_MOST = 10_000_000L;

    /** Stands for "without bound": far above what all fills together can want. */
    private static final long PLENTY = 1L << 40;
    /** A bound for loops that end by themselves long before it. */
    private static final int ROUNDS = 1_000_000;

    private static final int FIRST_BAD_SOURCE = 1, FIRST_BAD_FILL = 13, FIRST_BAD_WEEK = 21;
    private static final int UNPLANNED = 0, PLANNED = 1, CLASHED = 2;
    private static final int NO_WAY = -1;
    private static final long NO_PLAN = -1L;

    private final Site site;
    private final Plan plan;
    /** A second plan, so that asking "what if" leaves the first one alone. */
    private final Plan trial;
    private final Shortage shortage;
    private int state;

    public HaulFlows() {
        site = new Site();
        plan = new Plan(site);
        trial = new Plan(site);
        shortage = new Shortage(site);
        state = UNPLANNED;
    }

    public int cut(long volume, int kind, int week, long metre) {
        if (!isVolume(volume) || !isBelow(kind, KINDS) || !isBelow(week, WEEKS)
                || !isMetre(metre) || site.cuts >= CUTS) {
            return BAD;
        }
        state = UNPLANNED;
        return site.addCut(volume, kind, week, metre);
    }

    public int fill(long volume, int week, long metre) {
        if (!isVolume(volume) || !isBelow(week, WEEKS) || !isMetre(metre) || site.fills >= FILLS) {
            return BAD;
        }
        state = UNPLANNED;
        return site.addFill(volume, week, metre);
    }

    public boolean swell(int kind, long above, long below) {
        if (!isBelow(kind, KINDS) || !isSwell(above) || !isSwell(below)) {
            return false;
        }
        state = UNPLANNED;
        site.above[kind] = above;
        site.below[kind] = below;
        return true;
    }

    public boolean fits(int kind, int fill, boolean on) {
        if (!isBelow(kind, KINDS) || !isBelow(fill, site.fills)) {
            return false;
        }
        state = UNPLANNED;
        site.setFit(kind, fill, on);
        return true;
    }

    public int way(long from, long to, long cents) {
        if (!isMetre(from) || !isMetre(to) || !isCents(cents) || site.ways.count >= WAYS) {
            return BAD;
        }
        state = UNPLANNED;
        return site.ways.add(from, to, cents);
    }

    public boolean bar(int way, int fromWeek, int toWeek) {
        if (!isBelow(way, site.ways.count) || !isBelow(fromWeek, WEEKS) || !isBelow(toWeek, WEEKS)
                || fromWeek > toWeek) {
            return false;
        }
        state = UNPLANNED;
        site.ways.shut(way, fromWeek, toWeek);
        return true;
    }

    public int borrow(long metre, long cents) {
        if (!isMetre(metre) || !isCents(cents) || site.pits >= PITS) {
            return BAD;
        }
        state = UNPLANNED;
        return site.addPit(metre, cents);
    }

    public boolean most(int week, long volume) {
        if (!isBelow(week, WEEKS) || volume < 0 || volume > MAX_MOST) {
            return false;
        }
        state = UNPLANNED;
        site.weekMost[week] = volume;
        return true;
    }

    public int run(int steps) throws IllegalStateException {
        if (site.sources() * site.fills > steps) {
            throw new IllegalStateException("sources times fills are more than steps");
        }
        if (state == UNPLANNED) {
            state = workOut();
        }
        return state == PLANNED ? 0 : 1;
    }

    public long moved(int source, int fill, int part) {
        if (state != PLANNED || !isBelow(source, site.sources()) || !isBelow(fill, site.fills)
                || !isBelow(part, 2)) {
            return BAD;
        }
        return part == 0 ? plan.amount(source, fill) : plan.price(source, fill);
    }

    public long cost(int part) {
        if (state != PLANNED || !isBelow(part, 3)) {
            return BAD;
        }
        if (part == 0) {
            return plan.totalPrice();
        }
        return plan.amountFrom(part == 1 ? 0 : site.cuts, site.sources());
    }

    public long dual(int side, int k, int part) {
        if (state != PLANNED || !isBelow(side, 2) || !isBelow(part, 2)) {
            return BAD;
        }
        if (!isBelow(k, side == 0 ? site.cuts : site.fills)) {
            return BAD;
        }
        if (side == 1) {
            return partOfChange(plan.priceOfOneMore(k), part);
        }
        return site.gives(k) == 0 ? BAD : partOfChange(plan.priceOfOneLess(k), part);
    }

    public int clash(int k) {
        if (state != CLASHED || !isBelow(k, shortage.shortFills)) {
            return BAD;
        }
        return shortage.shortFill[k];
    }

    public long closure(int way, int part) {
        if (state != PLANNED || !isBelow(way, site.ways.count) || !isBelow(part, 2)) {
            return BAD;
        }
        boolean there = trial.makeCheapest(way);
        return partOfChange(there ? trial.totalPrice() - plan.totalPrice() : NO_PLAN, part);
    }

    public int list(int week, int k, int what) {
        if (state != PLANNED || !isBelow(week, WEEKS) || k < 0 || !isBelow(what, 3)) {
            return BAD;
        }
        int left = k;
        for (int source = 0; source < site.sources(); source++) {
            for (int fill = 0; fill < site.fills; fill++) {
                if (site.fillWeek[fill] != week || plan.amount(source, fill) == 0) {
                    continue;
                }
                if (left == 0) {
                    return what == 0 ? source : what == 1 ? fill : (int) plan.amount(source, fill);
                }
                left--;
            }
        }
        return BAD;
    }

    public long mass(long metre, int part) {
        if (!isMetre(metre) || !isBelow(part, 4) || (part >= 2 && state != PLANNED)) {
            return BAD;
        }
        switch (part) {
            case 0:
                return site.givenUpTo(metre);
            case 1:
                return site.wantedUpTo(metre);
            case 2:
                return plan.amountAcross(metre, true);
            default:
                return plan.amountAcross(metre, false);
        }
    }

    public int check() {
        if (state != PLANNED) {
            return BAD;
        }
        for (int source = 0; source < site.sources(); source++) {
            if (plan.amountFrom(source, source + 1) > site.capacity(source)) {
                return FIRST_BAD_SOURCE + source;
            }
        }
        for (int fill = 0; fill < site.fills; fill++) {
            if (plan.amountTo(fill) != site.fillVolume[fill]) {
                return FIRST_BAD_FILL + fill;
            }
        }
        for (int week = 0; week < WEEKS; week++) {
            if (plan.amountIn(week) > site.weekMost[week]) {
                return FIRST_BAD_WEEK + week;
            }
        }
        return 0;
    }

    public long level(int cut, int part) {
        if (state != PLANNED || !isBelow(cut, site.cuts) || !isBelow(part, 2)) {
            return BAD;
        }
        long gives = site.gives(cut);
        return part == 0 ? gives - plan.amountFrom(cut, cut + 1) : gives;
    }

    private int workOut() {
        if (site.weeksSuffice() && plan.makeCheapest(NO_WAY)) {
            plan.makeFirst();
            return PLANNED;
        }
        shortage.find();
        return CLASHED;
    }

    private static long partOfChange(long change, int part) {
        boolean there = change != NO_PLAN;
        if (part == 1) {
            return there ? 1 : 0;
        }
        return there ? change : 0;
    }

    private static boolean isBelow(int index, int count) {
        return index >= 0 && index < count;
    }

    private static boolean isVolume(long volume) {
        return volume >= 1 && volume <= MAX_VOLUME;
    }

    private static boolean isMetre(long metre) {
        return metre >= 0 && metre <= MAX_METRE;
    }

    private static boolean isCents(long cents) {
        return cents >= 0 && cents <= MAX_CENTS;
    }

    private static boolean isSwell(long term) {
        return term >= 1 && term <= MAX_SWELL;
    }

    /** The ways, and the weeks in which they are barred. */
    private static final class Ways {
        int count;
        final long[] from = new long[WAYS];
        final long[] to = new long[WAYS];
        final long[] cents = new long[WAYS];
        /** A bit for each week in which the way is barred. */
        final int[] barred = new int[WAYS];

        int add(long start, long end, long price) {
            from[count] = start;
            to[count] = end;
            cents[count] = price;
            count++;
            return count - 1;
        }

        void shut(int way, int firstWeek, int lastWeek) {
            for (int week = firstWeek; week <= lastWeek; week++) {
                barred[way] |= 1 << week;
            }
        }

        /** What a unit costs from a to b in a week, if one way (or NO_WAY) were closed. */
        long unitPrice(long a, long b, int week, int closed) {
            long least = Math.abs(a - b);
            for (int way = 0; way < count; way++) {
                if (way == closed || (barred[way] >> week & 1) == 1) {
                    continue;
                }
                long there = Math.abs(a - from[way]) + Math.abs(to[way] - b);
                long back = Math.abs(a - to[way]) + Math.abs(from[way] - b);
                least = Math.min(least, cents[way] + Math.min(there, back));
            }
            return least;
        }
    }

    /** What is known of the road, before any plan. */
    private static final class Site {
        int cuts;
        int pits;
        int fills;
        final Ways ways = new Ways();
        final long[] cutVolume = new long[CUTS];
        final long[] cutMetre = new long[CUTS];
        final int[] cutKind = new int[CUTS];
        final int[] cutWeek = new int[CUTS];
        final long[] pitMetre = new long[PITS];
        final long[] pitCents = new long[PITS];
        final long[] fillVolume = new long[FILLS];
        final long[] fillMetre = new long[FILLS];
        final int[] fillWeek = new int[FILLS];
        final long[] above = new long[KINDS];
        final long[] below = new long[KINDS];
        /** For each kind a bit for each fill that it does not fit. */
        final int[] unfit = new int[KINDS];
        final long[] weekMost = new long[WEEKS];

        Site() {
            Arrays.fill(above, 1L);
            Arrays.fill(below, 1L);
            Arrays.fill(weekMost, PLENTY);
        }

        int addCut(long volume, int kind, int week, long metre) {
            cutVolume[cuts] = volume;
            cutKind[cuts] = kind;
            cutWeek[cuts] = week;
            cutMetre[cuts] = metre;
            cuts++;
            return cuts - 1;
        }

        int addFill(long volume, int week, long metre) {
            fillVolume[fills] = volume;
            fillWeek[fills] = week;
            fillMetre[fills] = metre;
            fills++;
            return fills - 1;
        }

        int addPit(long metre, long cents) {
            pitMetre[pits] = metre;
            pitCents[pits] = cents;
            pits++;
            return pits - 1;
        }

        void setFit(int kind, int fill, boolean on) {
            if (on) {
                unfit[kind] &= ~(1 << fill);
            } else {
                unfit[kind] |= 1 << fill;
            }
        }

        int sources() {
            return cuts + pits;
        }

        long gives(int cut) {
            int kind = cutKind[cut];
            long divisor = below[kind];
            return divisor < 1 ? 0 : cutVolume[cut] * above[kind] / divisor;
        }

        long capacity(int source) {
            return source < cuts ? gives(source) : PLENTY;
        }

        long metreOf(int source) {
            return source < cuts ? cutMetre[source] : pitMetre[source - cuts];
        }

        boolean serves(int source, int fill) {
            if (source >= cuts) {
                return true;
            }
            return (unfit[cutKind[source]] >> fill & 1) == 0 && cutWeek[source] <= fillWeek[fill];
        }

        long unitPrice(int source, int fill, int closed) {
            long extra = source < cuts ? 0 : pitCents[source - cuts];
            return extra + ways.unitPrice(metreOf(source), fillMetre[fill], fillWeek[fill], closed);
        }

        /** What a week could still take beside what its fills want; less than 0 if it is too much. */
        long weekSpare(int week) {
            long spare = weekMost[week];
            for (int fill = 0; fill < fills; fill++) {
                if (fillWeek[fill] == week) {
                    spare -= fillVolume[fill];
                }
            }
            return spare;
        }

        boolean weeksSuffice() {
            for (int week = 0; week < WEEKS; week++) {
                if (weekSpare(week) < 0) {
                    return false;
                }
            }
            return true;
        }

        long givenUpTo(long metre) {
            long sum = 0;
            for (int cut = 0; cut < cuts; cut++) {
                if (cutMetre[cut] <= metre) {
                    sum += gives(cut);
                }
            }
            return sum;
        }

        long wantedUpTo(long metre) {
            long sum = 0;
            for (int fill = 0; fill < fills; fill++) {
                if (fillMetre[fill] <= metre) {
                    sum += fillVolume[fill];
                }
            }
            return sum;
        }
    }

    /**
     * Amounts from sources to fills. What a source keeps stands in a column of its own, IDLE, as if
     * it went to one more fill for nothing: so every exchange between plans is a plain ring of cells.
     *
     * Rents (of sources) and worths (of columns) prove that a plan is a cheapest one: unit + rent -
     * worth is nowhere below 0, and is 0 in every cell that is used. Nodes are the sources, then the
     * columns.
     */
    private static final class Plan {
        private static final int IDLE = FILLS, COLUMNS = FILLS + 1, NODES = SOURCES + COLUMNS;
        private static final long APART = -1L, FAR = Long.MAX_VALUE;
        private static final int UNSEEN = -1;
        /** More than the hops of any path, so that a key's cents and hops do not mix. */
        private static final long HOPS = 32;

        private final Site site;
        private int sources;
        private int fills;
        private final long[] unit = new long[SOURCES * COLUMNS];
        private final long[] load = new long[SOURCES * COLUMNS];
        private final long[] rent = new long[SOURCES];
        private final long[] worth = new long[COLUMNS];
        /** How far a node is: cents times HOPS, and the hops; few hops keep the rounds few. */
        private final long[] key = new long[NODES];
        private final boolean[] done = new boolean[NODES];
        private final int[] before = new int[NODES];
        private final int[] queue = new int[NODES];
        private int queued;

        Plan(Site site) {
            this.site = site;
        }

        long amount(int source, int fill) {
            return load[source * COLUMNS + fill];
        }

        long price(int source, int fill) {
            int cell = source * COLUMNS + fill;
            return load[cell] * unit[cell];
        }

        long totalPrice() {
            long sum = 0;
            for (int source = 0; source < sources; source++) {
                for (int fill = 0; fill < fills; fill++) {
                    sum += price(source, fill);
                }
            }
            return sum;
        }

        /** What goes to fills from a first source up to (without) an end one. */
        long amountFrom(int first, int end) {
            long sum = 0;
            for (int source = first; source < end; source++) {
                for (int fill = 0; fill < fills; fill++) {
                    sum += amount(source, fill);
                }
            }
            return sum;
        }

        long amountTo(int fill) {
            long sum = 0;
            for (int source = 0; source < sources; source++) {
                sum += amount(source, fill);
            }
            return sum;
        }

        long amountIn(int week) {
            long sum = 0;
            for (int fill = 0; fill < fills; fill++) {
                if (site.fillWeek[fill] == week) {
                    sum += amountTo(fill);
                }
            }
            return sum;
        }

        /** What crosses a metre: onwards from sources up to it, or else back from those beyond. */
        long amountAcross(long metre, boolean onwards) {
            long sum = 0;
            for (int source = 0; source < sources; source++) {
                boolean sourceHere = site.metreOf(source) <= metre;
                for (int fill = 0; fill < fills; fill++) {
                    boolean fillHere = site.fillMetre[fill] <= metre;
                    if (sourceHere == onwards && fillHere != onwards) {
                        sum += amount(source, fill);
                    }
                }
            }
            return sum;
        }

        /** What it costs if a cut gives one less, or NO_PLAN. */
        long priceOfOneLess(int cut) {
            int end = search(cut);
            return end < 0 ? NO_PLAN : rent[cut] + key[end] / HOPS;
        }

        /** What it costs if a fill wants one more, or NO_PLAN. */
        long priceOfOneMore(int fill) {
            if (site.weekSpare(site.fillWeek[fill]) < 1) {
                return NO_PLAN;
            }
            int end = search(SOURCES + fill);
            return end < 0 ? NO_PLAN : worth[fill] + key[end] / HOPS;
        }

        /** Makes some plan of least cost, as if one way (or NO_WAY) were closed; false: none. */
        boolean makeCheapest(int closed) {
            clear(closed);
            for (int fill = 0; fill < fills; fill++) {
                if (!serve(fill)) {
                    return false;
                }
            }
            return true;
        }

        private void clear(int closed) {
            sources = site.sources();
            fills = site.fills;
            Arrays.fill(unit, APART);
            Arrays.fill(load, 0L);
            Arrays.fill(rent, 0L);
            Arrays.fill(worth, 0L);
            for (int source = 0; source < sources; source++) {
                int row = source * COLUMNS;
                unit[row + IDLE] = 0;
                load[row + IDLE] = site.capacity(source);
                for (int fill = 0; fill < fills; fill++) {
                    if (site.serves(source, fill)) {
                        unit[row + fill] = site.unitPrice(source, fill, closed);
                    }
                }
            }
        }

        private boolean serve(int fill) {
            long need = site.fillVolume[fill];
            for (int round = 0; round < ROUNDS && need > 0; round++) {
                int end = search(SOURCES + fill);
                if (end < 0) {
                    return false;
                }
                raiseWorths(key[end] / HOPS);
                need -= bring(fill, end, need);
            }
            return need == 0;
        }

        /** The cheapest source with something left, for one unit at the start node; or UNSEEN. */
        private int search(int start) {
            for (int node = 0; node < NODES; node++) {
                key[node] = FAR;
                done[node] = false;
            }
            key[start] = 0;
            for (int turn = 0; turn < NODES; turn++) {
                int node = nearest();
                if (node < 0 || (node < SOURCES && load[node * COLUMNS + IDLE] > 0)) {
                    return node;
                }
                done[node] = true;
                if (node < SOURCES) {
                    reachFills(node);
                } else {
                    reachSources(node - SOURCES);
                }
            }
            return UNSEEN;
        }

        private int nearest() {
            int best = UNSEEN;
            long least = FAR;
            for (int node = 0; node < SOURCES + fills; node++) {
                if (!done[node] && key[node] < least) {
                    least = key[node];
                    best = node;
                }
            }
            return best;
        }

        /** A source may serve a fill less; the cells in use cost nothing by rents and worths. */
        private void reachFills(int source) {
            for (int fill = 0; fill < fills; fill++) {
                if (load[source * COLUMNS + fill] > 0) {
                    reach(SOURCES + fill, source, 0);
                }
            }
        }

        /** A fill may be served more by each source that serves it. */
        private void reachSources(int fill) {
            for (int source = 0; source < sources; source++) {
                long cents = unit[source * COLUMNS + fill];
                if (cents != APART) {
                    reach(source, SOURCES + fill, cents + rent[source] - worth[fill]);
                }
            }
        }

        private void reach(int node, int from, long cents) {
            long far = key[from] + cents * HOPS + 1;
            if (!done[node] && far < key[node]) {
                key[node] = far;
                before[node] = from;
            }
        }

        /** Keeps rents and worths a proof, now that the search found its end at a distance. */
        private void raiseWorths(long distance) {
            for (int source = 0; source < sources; source++) {
                rent[source] += Math.max(0, distance - key[source] / HOPS);
            }
            for (int fill = 0; fill < fills; fill++) {
                worth[fill] += Math.max(0, distance - key[SOURCES + fill] / HOPS);
            }
        }

        /** Brings up to the need to a fill, on the path that the search found: how much. */
        private long bring(int fill, int end, long need) {
            long most = Math.min(need, load[end * COLUMNS + IDLE]);
            int source = end;
            for (int hop = 0; hop < SOURCES && before[source] != SOURCES + fill; hop++) {
                int other = before[source];
                source = before[other];
                most = Math.min(most, load[source * COLUMNS + other - SOURCES]);
            }
            load[end * COLUMNS + IDLE] -= most;
            source = end;
            for (int hop = 0; hop < SOURCES && before[source] != SOURCES + fill; hop++) {
                int other = before[source];
                load[source * COLUMNS + other - SOURCES] += most;
                source = before[other];
                load[source * COLUMNS + other - SOURCES] -= most;
            }
            load[source * COLUMNS + fill] += most;
            return most;
        }

        /** Of all cheapest plans the first one: cell by cell as much as the cells before allow. */
        void makeFirst() {
            for (int source = 0; source < sources; source++) {
                for (int fill = 0; fill < fills; fill++) {
                    if (isFree(source, fill)) {
                        raise(source, fill);
                    }
                }
            }
        }

        /** Whether some cheapest plan may use a cell. */
        private boolean isFree(int source, int column) {
            long cents = unit[source * COLUMNS + column];
            return cents != APART && cents + rent[source] == worth[column];
        }

        private void raise(int source, int fill) {
            for (int round = 0; round < ROUNDS; round++) {
                int last = findRing(source, fill);
                if (last < 0) {
                    return;
                }
                turnRing(source, fill, last);
            }
        }

        /**
         * A ring of free cells that brings more from a source to a fill, all of it behind that cell:
         * the column in which the source then gives less; or UNSEEN.
         */
        private int findRing(int source, int fill) {
            Arrays.fill(before, UNSEEN);
            queued = 0;
            enqueue(SOURCES + fill, SOURCES + fill);
            for (int next = 0; next < queued && next < NODES; next++) {
                int node = queue[next];
                if (node < SOURCES) {
                    enqueueColumns(node);
                    continue;
                }
                int column = node - SOURCES;
                if (column > fill && load[source * COLUMNS + column] > 0) {
                    return column;
                }
                enqueueGivers(column, source + 1);
            }
            return UNSEEN;
        }

        private void enqueueColumns(int source) {
            for (int column = 0; column < COLUMNS; column++) {
                if (isFree(source, column)) {
                    enqueue(SOURCES + column, source);
                }
            }
        }

        private void enqueueGivers(int column, int first) {
            for (int source = first; source < sources; source++) {
                if (load[source * COLUMNS + column] > 0) {
                    enqueue(source, SOURCES + column);
                }
            }
        }

        private void enqueue(int node, int from) {
            if (before[node] == UNSEEN && queued < NODES) {
                before[node] = from;
                queue[queued] = node;
                queued++;
            }
        }

        private void turnRing(int source, int fill, int last) {
            long most = load[source * COLUMNS + last];
            int column = last;
            for (int hop = 0; hop < SOURCES && column != fill; hop++) {
                int other = before[SOURCES + column];
                column = before[other] - SOURCES;
                most = Math.min(most, load[other * COLUMNS + column]);
            }
            load[source * COLUMNS + last] -= most;
            column = last;
            for (int hop = 0; hop < SOURCES && column != fill; hop++) {
                int other = before[SOURCES + column];
                load[other * COLUMNS + column] += most;
                column = before[other] - SOURCES;
                load[other * COLUMNS + column] -= most;
            }
            load[source * COLUMNS + fill] += most;
        }
    }

    /**
     * Which fills clash: the greatest flow from START over sources, fills and weeks to END, and what
     * its rests allow.
     */
    private static final class Shortage {
        private static final int FIRST_FILL = SOURCES, FIRST_WEEK = SOURCES + FILLS;
        private static final int START = FIRST_WEEK + WEEKS, END = START + 1, NODES = END + 1;
        private static final int UNSEEN = -1;

        private final Site site;
        int shortFills;
        final int[] shortFill = new int[FILLS];
        /** How much more could still go from one node to another one. */
        private final long[] rest = new long[NODES * NODES];
        private final int[] before = new int[NODES];
        private final int[] queue = new int[NODES];

        Shortage(Site site) {
            this.site = site;
        }

        void find() {
            clear();
            for (int round = 0; round < ROUNDS && canReach(START, END); round++) {
                push();
            }
            shortFills = 0;
            for (int fill = 0; fill < site.fills; fill++) {
                // A way from the fill to its week closes a ring that takes back what the fill got.
                if (canReach(FIRST_FILL + fill, FIRST_WEEK + site.fillWeek[fill])) {
                    shortFill[shortFills] = fill;
                    shortFills++;
                }
            }
        }

        private void clear() {
            Arrays.fill(rest, 0L);
            for (int source = 0; source < site.sources(); source++) {
                rest[START * NODES + source] = site.capacity(source);
                for (int fill = 0; fill < site.fills; fill++) {
                    rest[source * NODES + FIRST_FILL + fill] = site.serves(source, fill) ? PLENTY : 0;
                }
            }
            for (int fill = 0; fill < site.fills; fill++) {
                int week = FIRST_WEEK + site.fillWeek[fill];
                rest[(FIRST_FILL + fill) * NODES + week] = site.fillVolume[fill];
                rest[week * NODES + END] = site.weekMost[site.fillWeek[fill]];
            }
        }

        /** Whether something could still go from one node to another one, by the fewest hops. */
        private boolean canReach(int start, int end) {
            Arrays.fill(before, UNSEEN);
            before[start] = start;
            queue[0] = start;
            int queued = 1;
            for (int next = 0; next < queued && next < NODES && before[end] == UNSEEN; next++) {
                int row = queue[next] * NODES;
                for (int node = 0; node < NODES; node++) {
                    if (rest[row + node] > 0 && before[node] == UNSEEN && queued < NODES) {
                        before[node] = queue[next];
                        queue[queued] = node;
                        queued++;
                    }
                }
            }
            return before[end] != UNSEEN;
        }

        private void push() {
            long most = PLENTY;
            int node = END;
            for (int hop = 0; hop < NODES && node != START; hop++) {
                most = Math.min(most, rest[before[node] * NODES + node]);
                node = before[node];
            }
            node = END;
            for (int hop = 0; hop < NODES && node != START; hop++) {
                rest[before[node] * NODES + node] -= most;
                rest[node * NODES + before[node]] += most;
                node = before[node];
            }
        }
    }
}
