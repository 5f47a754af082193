import java.util.ArrayList;
import java.util.List;

/**
 * The edges of every argument: the last value that is taken and the first one that is refused, on
 * both sides; what a refused call leaves as it was; what is gone after one that is not refused.
 */
public final class EdgesTest {
    private static final Due DUE = new Due("EdgesTest");
    private static final long BAD = -1, NO = 0, YES = 1;

    private static final long MAX = Long.MAX_VALUE, MIN = Long.MIN_VALUE;
    /** As an int it would be 0, or (one more) 1. */
    private static final long WRAP = 1L << 32;
    private static final long[] NO_VOLUME = {0, -1, 1000001, WRAP, WRAP + 1, MAX, MIN, MIN + 1};
    private static final long[] NO_METRE = {-1, 100001, WRAP, WRAP + 1, -WRAP, MAX, MIN, MIN + 1};
    private static final long[] NO_CENTS = NO_METRE;
    private static final long[] NO_TERM = {0, -1, 1001, WRAP, WRAP + 1, MAX, MIN, MIN + 1};
    private static final long[] NO_MOST = {-1, 10000001, WRAP, WRAP + 1, -WRAP, MAX, MIN, MIN + 1};

    private interface Call {
        long on(HaulFlows x);
    }

    /** A call, what it is in words, and what it has to answer. */
    private record Row(String name, Call call, long due) { }

    public static void main(String[] args) {
        for (Road road : Road.ALL) {
            refusedCalls(road);
            refusedRuns(road);
            questions(road);
        }
        for (Road road : new Road[] {Road.NEW, Road.PLANNED, Road.CLASHED, Road.CHANGED, Road.MENDED}) {
            takenCalls(road);
        }
        for (Road road : new Road[] {Road.PLANNED, Road.CLASHED}) {
            callsThatChangeNothing(road);
        }
        callsOnAFullRoad();
        questionsWithoutAPlan(Road.NEW);
        questionsWithoutAPlan(Road.CLASHED);
        questionsWithoutAPlan(Road.CHANGED);
        questionsWithoutAPlan(Road.MENDED);
        everyNumberUpToTheLast();
        DUE.end();
    }

    private static void is(String call, long got, long want) {
        DUE.is(call, got, want);
    }

    private static void same(String what, String got, String want) {
        DUE.is(what + ", " + got + " instead of " + want, got.equals(want), true);
    }

    private static int[] outside(int count) {
        return new int[] {-1, count, Integer.MAX_VALUE, Integer.MIN_VALUE};
    }

    private static long one(boolean answer) {
        return answer ? YES : NO;
    }

    /* Refused calls */

    private static List<Row> refused(Road road) {
        List<Row> rows = new ArrayList<>();
        refusedCuts(rows);
        refusedFills(rows);
        refusedSwells(rows);
        refusedFits(rows, road);
        refusedWays(rows);
        refusedBars(rows, road);
        refusedPits(rows);
        refusedMosts(rows);
        if (road == Road.FULL) {
            rows.add(new Row("2: there are 8", x -> x.cut(1, 0, 0, 0), BAD));
            rows.add(new Row("3: there are 8", x -> x.fill(1, 0, 0), BAD));
            rows.add(new Row("6: there are 6", x -> x.way(0, 0, 0), BAD));
            rows.add(new Row("8: there are 4", x -> x.borrow(0, 0), BAD));
        }
        return rows;
    }

    private static void refusedCuts(List<Row> rows) {
        for (long v : NO_VOLUME) {
            rows.add(new Row("2: volume " + v, x -> x.cut(v, 0, 0, 0), BAD));
        }
        for (int k : outside(4)) {
            rows.add(new Row("2: kind " + k, x -> x.cut(1, k, 0, 0), BAD));
        }
        for (int w : outside(12)) {
            rows.add(new Row("2: week " + w, x -> x.cut(1, 0, w, 0), BAD));
        }
        for (long m : NO_METRE) {
            rows.add(new Row("2: metre " + m, x -> x.cut(1, 0, 0, m), BAD));
        }
    }

    private static void refusedFills(List<Row> rows) {
        for (long v : NO_VOLUME) {
            rows.add(new Row("3: volume " + v, x -> x.fill(v, 0, 0), BAD));
        }
        for (int w : outside(12)) {
            rows.add(new Row("3: week " + w, x -> x.fill(1, w, 0), BAD));
        }
        for (long m : NO_METRE) {
            rows.add(new Row("3: metre " + m, x -> x.fill(1, 0, m), BAD));
        }
    }

    private static void refusedSwells(List<Row> rows) {
        for (int k : outside(4)) {
            rows.add(new Row("4: kind " + k, x -> one(x.swell(k, 2, 1)), NO));
        }
        for (long t : NO_TERM) {
            rows.add(new Row("4: above " + t, x -> one(x.swell(0, t, 2)), NO));
            rows.add(new Row("4: below " + t, x -> one(x.swell(0, 2, t)), NO));
        }
    }

    private static void refusedFits(List<Row> rows, Road road) {
        for (boolean on : new boolean[] {false, true}) {
            for (int k : outside(4)) {
                rows.add(new Row("5: kind " + k, x -> one(x.fits(k, 0, on)), NO));
            }
            for (int f : outside(road.fills())) {
                rows.add(new Row("5: fill " + f, x -> one(x.fits(0, f, on)), NO));
            }
            rows.add(new Row("5: fill 8", x -> one(x.fits(3, 8, on)), NO));
        }
    }

    private static void refusedWays(List<Row> rows) {
        for (long m : NO_METRE) {
            rows.add(new Row("6: from " + m, x -> x.way(m, 0, 0), BAD));
            rows.add(new Row("6: to " + m, x -> x.way(0, m, 0), BAD));
        }
        for (long c : NO_CENTS) {
            rows.add(new Row("6: cents " + c, x -> x.way(0, 0, c), BAD));
        }
    }

    private static void refusedBars(List<Row> rows, Road road) {
        for (int w : outside(road.ways())) {
            rows.add(new Row("7: way " + w, x -> one(x.bar(w, 0, 11)), NO));
        }
        for (int w : outside(12)) {
            rows.add(new Row("7: from week " + w, x -> one(x.bar(0, w, 11)), NO));
            rows.add(new Row("7: to week " + w, x -> one(x.bar(0, 0, w)), NO));
            rows.add(new Row("7: both " + w, x -> one(x.bar(0, w, w)), NO));
        }
        for (int first = 1; first < 12; first++) {
            int from = first;
            rows.add(new Row("7: from " + from + " to the one before", x -> one(x.bar(0, from, from - 1)), NO));
            rows.add(new Row("7: from " + from + " to 0", x -> one(x.bar(0, from, 0)), NO));
        }
    }

    private static void refusedPits(List<Row> rows) {
        for (long m : NO_METRE) {
            rows.add(new Row("8: metre " + m, x -> x.borrow(m, 0), BAD));
        }
        for (long c : NO_CENTS) {
            rows.add(new Row("8: cents " + c, x -> x.borrow(0, c), BAD));
        }
    }

    private static void refusedMosts(List<Row> rows) {
        for (int w : outside(12)) {
            rows.add(new Row("9: week " + w, x -> one(x.most(w, 0)), NO));
        }
        for (long v : NO_MOST) {
            rows.add(new Row("9: volume " + v, x -> one(x.most(0, v)), NO));
        }
    }

    /** A refused call leaves every answer as it was, now and later. */
    private static void refusedCalls(Road road) {
        String before = road.answers(road.make());
        HaulFlows twin = road.make();
        String numbers = oneMoreOfEach(twin);
        String after = road.answers(twin);
        for (Row row : refused(road)) {
            HaulFlows x = road.make();
            String name = row.name() + " on a " + road.name() + " road";
            is(name, Due.answer(() -> row.call().on(x)), row.due());
            same(name + " leaves what was planned", road.answers(x), before);
            same(name + " leaves the numbers", oneMoreOfEach(x), numbers);
            same(name + " leaves the road", road.answers(x), after);
        }
    }

    private static String oneMoreOfEach(HaulFlows x) {
        StringBuilder numbers = new StringBuilder();
        numbers.append(x.cut(30, 0, 0, 7)).append(' ').append(x.fill(20, 0, 9)).append(' ');
        numbers.append(x.way(7, 9, 1)).append(' ').append(x.borrow(5000, 9)).append(' ');
        return numbers.append(Due.run(x, Road.STEPS)).toString();
    }

    /** "Illegal state: sources times fills are more than steps; what was planned stays." */
    private static void refusedRuns(Road road) {
        int product = road.sources() * road.fills();
        String before = road.answers(road.make());
        HaulFlows twin = road.make();
        long due = Due.run(twin, product);
        String after = road.answers(twin);
        for (int steps : new int[] {product - 1, -1, Integer.MIN_VALUE}) {
            HaulFlows x = road.make();
            String name = "10: " + steps + " steps on a " + road.name() + " road";
            is(name, Due.run(x, steps), Due.ILLEGAL_STATE);
            same(name + " leave what was planned", road.answers(x), before);
            is(name + ", then enough", Due.run(x, product), due);
            same(name + ", then enough", road.answers(x), after);
        }
        for (int steps : new int[] {product, product + 1, Integer.MAX_VALUE}) {
            HaulFlows x = road.make();
            String name = "10: " + steps + " steps on a " + road.name() + " road";
            is(name, Due.run(x, steps), due);
            same(name, road.answers(x), after);
        }
    }

    /* Calls that are not refused */

    private static List<Row> taken(Road road) {
        List<Row> rows = new ArrayList<>();
        for (long v : new long[] {1, 2, 999999, 1000000}) {
            rows.add(new Row("2: volume " + v, x -> x.cut(v, 1, 1, 1), road.cuts()));
            rows.add(new Row("3: volume " + v, x -> x.fill(v, 1, 1), road.fills()));
        }
        for (long m : new long[] {0, 1, 99999, 100000}) {
            rows.add(new Row("2: metre " + m, x -> x.cut(1, 1, 1, m), road.cuts()));
            rows.add(new Row("3: metre " + m, x -> x.fill(1, 1, m), road.fills()));
            rows.add(new Row("6: from " + m, x -> x.way(m, 1, 1), road.ways()));
            rows.add(new Row("6: to " + m, x -> x.way(1, m, 1), road.ways()));
            rows.add(new Row("6: cents " + m, x -> x.way(1, 1, m), road.ways()));
            rows.add(new Row("8: metre " + m, x -> x.borrow(m, 1), road.pits()));
            rows.add(new Row("8: cents " + m, x -> x.borrow(1, m), road.pits()));
        }
        for (int w : new int[] {0, 1, 10, 11}) {
            rows.add(new Row("2: week " + w, x -> x.cut(1, 1, w, 1), road.cuts()));
            rows.add(new Row("3: week " + w, x -> x.fill(1, w, 1), road.fills()));
            rows.add(new Row("9: week " + w, x -> one(x.most(w, 1)), YES));
        }
        for (int k = 0; k < 4; k++) {
            int kind = k;
            rows.add(new Row("2: kind " + k, x -> x.cut(1, kind, 1, 1), road.cuts()));
            rows.add(new Row("4: kind " + k, x -> one(x.swell(kind, 3, 2)), YES));
        }
        takenTerms(rows);
        takenFits(rows, road);
        takenBars(rows, road);
        return rows;
    }

    private static void takenTerms(List<Row> rows) {
        for (long t : new long[] {1, 2, 999, 1000}) {
            rows.add(new Row("4: above " + t, x -> one(x.swell(0, t, 2)), YES));
            rows.add(new Row("4: below " + t, x -> one(x.swell(0, 2, t)), YES));
        }
        for (long v : new long[] {0, 1, 9999999, 10000000}) {
            rows.add(new Row("9: volume " + v, x -> one(x.most(0, v)), YES));
        }
    }

    private static void takenFits(List<Row> rows, Road road) {
        for (int f = 0; f < road.fills(); f++) {
            int fill = f;
            for (int k = 0; k < 4; k++) {
                int kind = k;
                rows.add(new Row("5: kind " + k + " no longer fits fill " + f, x -> one(x.fits(kind, fill, false)), YES));
                rows.add(new Row("5: kind " + k + " fits fill " + f, x -> one(x.fits(kind, fill, true)), YES));
            }
        }
    }

    private static void takenBars(List<Row> rows, Road road) {
        int[][] weeks = {{0, 0}, {0, 1}, {0, 11}, {5, 5}, {5, 6}, {10, 11}, {11, 11}};
        for (int w = 0; w < road.ways(); w++) {
            int way = w;
            for (int[] pair : weeks) {
                rows.add(new Row("7: from " + pair[0] + " to " + pair[1], x -> one(x.bar(way, pair[0], pair[1])), YES));
            }
        }
    }

    /** "The plan is gone (so with every call .. that is not refused ..)." */
    private static void takenCalls(Road road) {
        for (Row row : taken(road)) {
            HaulFlows x = road.make();
            String name = row.name() + " on a " + road.name() + " road";
            is(name, Due.answer(() -> row.call().on(x)), row.due());
            gone(name, x);
            DUE.is(name + ": it runs", Due.run(x, Road.STEPS) >= 0, true);
        }
    }

    private static void gone(String name, HaulFlows x) {
        is(name + ": moved is gone", x.moved(0, 0, 0), BAD);
        is(name + ": what that costs is gone", x.moved(0, 0, 1), BAD);
        for (int part = 0; part < 3; part++) {
            is(name + ": cost is gone", x.cost(part), BAD);
        }
        for (int part = 0; part < 2; part++) {
            is(name + ": dual 0 is gone", x.dual(0, 0, part), BAD);
            is(name + ": dual 1 is gone", x.dual(1, 0, part), BAD);
            is(name + ": closure is gone", x.closure(0, part), BAD);
            is(name + ": level is gone", x.level(0, part), BAD);
            is(name + ": mass is gone", x.mass(20, 2 + part), BAD);
        }
        for (int week = 0; week < 12; week++) {
            is(name + ": list is gone", x.list(week, 0, 0), BAD);
        }
        is(name + ": check is gone", x.check(), BAD);
        is(name + ": clash is gone", x.clash(0), BAD);
    }

    /** ".. also if it changes nothing": the plan is gone, and the next run makes the same one. */
    private static void callsThatChangeNothing(Road road) {
        List<Row> rows = new ArrayList<>();
        rows.add(new Row("4: a kind that no cut has", x -> one(x.swell(3, 2, 3)), YES));
        rows.add(new Row("4: 1 / 1 as at first", x -> one(x.swell(1, 1, 1)), YES));
        rows.add(new Row("4: 7 / 7", x -> one(x.swell(0, 7, 7)), YES));
        rows.add(new Row("5: it fits already", x -> one(x.fits(0, 0, true)), YES));
        rows.add(new Row("5: a kind that no cut has", x -> one(x.fits(3, 0, false)), YES));
        rows.add(new Row("6: a way to where it begins", x -> x.way(5, 5, 0), road.ways()));
        rows.add(new Row("7: in a week without fills", x -> one(x.bar(0, 9, 9)), YES));
        rows.add(new Row("9: of a week without fills", x -> one(x.most(9, 0)), YES));
        rows.add(new Row("9: as much as can be", x -> one(x.most(0, 10000000)), YES));
        String before = road.answers(road.make());
        for (Row row : rows) {
            HaulFlows x = road.make();
            String name = row.name() + " on a " + road.name() + " road";
            is(name, row.call().on(x), row.due());
            gone(name, x);
            Due.run(x, Road.STEPS);
            same(name + ", then run", road.answers(x), before);
            DUE.is(name + " again", row.call().on(x) > 0, true);
            gone(name + " again", x);
        }
    }

    /** On a full road the calls that make nothing new are still taken. */
    private static void callsOnAFullRoad() {
        HaulFlows x = Road.FULL.make();
        is("5: the last kind, the last fill", one(x.fits(3, 7, false)), YES);
        gone("5: on a full road", x);
        Due.run(x, 96);
        is("7: the last way", one(x.bar(5, 0, 11)), YES);
        gone("7: on a full road", x);
        Due.run(x, 96);
        is("4: the last kind", one(x.swell(3, 1000, 1000)), YES);
        gone("4: on a full road", x);
        Due.run(x, 96);
        is("9: the last week", one(x.most(11, 10000000)), YES);
        gone("9: on a full road", x);
    }

    /* Questions */

    /** Every question leaves every answer as it was; those outside the edges are BAD. */
    private static void questions(Road road) {
        String before = road.answers(road.make());
        for (Row row : questionsOutside(road)) {
            HaulFlows x = road.make();
            String name = row.name() + " on a " + road.name() + " road";
            is(name, Due.answer(() -> row.call().on(x)), row.due());
            same(name + " leaves what was planned", road.answers(x), before);
        }
        HaulFlows x = road.make();
        for (Row row : questionsInside(road)) {
            row.call().on(x);
        }
        same("all questions leave what was planned", road.answers(x), before);
    }

    private static List<Row> questionsOutside(Road road) {
        List<Row> rows = new ArrayList<>();
        for (int s : outside(road.sources())) {
            rows.add(new Row("11: source " + s, x -> x.moved(s, 0, 0), BAD));
        }
        for (int f : outside(road.fills())) {
            rows.add(new Row("11: fill " + f, x -> x.moved(0, f, 0), BAD));
            rows.add(new Row("13: fill " + f, x -> x.dual(1, f, 0), BAD));
            rows.add(new Row("13: fill " + f + ", part 1", x -> x.dual(1, f, 1), BAD));
            rows.add(new Row("14: " + f, x -> x.clash(f), BAD));
        }
        for (int c : outside(road.cuts())) {
            rows.add(new Row("13: cut " + c, x -> x.dual(0, c, 0), BAD));
            rows.add(new Row("13: cut " + c + ", part 1", x -> x.dual(0, c, 1), BAD));
            rows.add(new Row("19: cut " + c, x -> x.level(c, 0), BAD));
            rows.add(new Row("19: cut " + c + ", part 1", x -> x.level(c, 1), BAD));
        }
        for (int w : outside(road.ways())) {
            rows.add(new Row("15: way " + w, x -> x.closure(w, 0), BAD));
            rows.add(new Row("15: way " + w + ", part 1", x -> x.closure(w, 1), BAD));
        }
        for (int p : outside(2)) {
            rows.add(new Row("11: part " + p, x -> x.moved(0, 0, p), BAD));
            rows.add(new Row("13: side " + p, x -> x.dual(p, 0, 0), BAD));
            rows.add(new Row("13: part " + p, x -> x.dual(0, 0, p), BAD));
            rows.add(new Row("13: part " + p + " of side 1", x -> x.dual(1, 0, p), BAD));
            rows.add(new Row("15: part " + p, x -> x.closure(0, p), BAD));
            rows.add(new Row("19: part " + p, x -> x.level(0, p), BAD));
        }
        for (int p : outside(3)) {
            rows.add(new Row("12: part " + p, x -> x.cost(p), BAD));
            rows.add(new Row("16: what " + p, x -> x.list(1, 0, p), BAD));
        }
        for (int w : outside(12)) {
            rows.add(new Row("16: week " + w, x -> x.list(w, 0, 0), BAD));
        }
        for (int k : outside(100)) {
            rows.add(new Row("16: move " + k, x -> x.list(1, k, 0), BAD));
        }
        for (int p : outside(4)) {
            rows.add(new Row("17: part " + p, x -> x.mass(0, p), BAD));
        }
        for (long m : NO_METRE) {
            for (int p = 0; p < 4; p++) {
                int part = p;
                rows.add(new Row("17: metre " + m + ", part " + p, x -> x.mass(m, part), BAD));
            }
        }
        return rows;
    }

    /** The last numbers on each side; on a road without a plan all but the masses are BAD. */
    private static List<Row> questionsInside(Road road) {
        List<Row> rows = new ArrayList<>();
        for (int p = 0; p < 2; p++) {
            int part = p;
            for (int s : new int[] {0, road.sources() - 1}) {
                rows.add(new Row("11: source " + s, x -> x.moved(s, 0, part), BAD));
                rows.add(new Row("11: last fill", x -> x.moved(s, road.fills() - 1, part), BAD));
            }
            for (int c : new int[] {0, road.cuts() - 1}) {
                rows.add(new Row("13: cut " + c, x -> x.dual(0, c, part), BAD));
                rows.add(new Row("19: cut " + c, x -> x.level(c, part), BAD));
            }
            for (int f : new int[] {0, road.fills() - 1}) {
                rows.add(new Row("13: fill " + f, x -> x.dual(1, f, part), BAD));
            }
            for (int w : new int[] {0, road.ways() - 1}) {
                rows.add(new Row("15: way " + w, x -> x.closure(w, part), BAD));
            }
            for (long m : new long[] {0, 100000}) {
                rows.add(new Row("17: metre " + m + ", part " + (2 + p), x -> x.mass(m, 2 + part), BAD));
            }
        }
        for (int p = 0; p < 3; p++) {
            int part = p;
            rows.add(new Row("12: part " + p, x -> x.cost(part), BAD));
            for (int w = 0; w < 12; w++) {
                int week = w;
                rows.add(new Row("16: week " + w + ", what " + p, x -> x.list(week, 0, part), BAD));
            }
        }
        rows.add(new Row("18: check", HaulFlows::check, BAD));
        return rows;
    }

    /** "BAD: no plan": nothing was run, the last run was 1, or something was changed. */
    private static void questionsWithoutAPlan(Road road) {
        HaulFlows x = road.make();
        for (Row row : questionsInside(road)) {
            is(row.name() + " on a " + road.name() + " road, which has no plan", row.call().on(x), row.due());
        }
        boolean none = road == Road.NEW;
        is("17: without a plan, cuts", one(x.mass(100000, 0) > 0), one(!none));
        is("17: without a plan, fills", one(x.mass(100000, 1) > 0), one(!none));
    }

    /** On a road with a plan each number up to the last one is answered. */
    private static void everyNumberUpToTheLast() {
        for (Road road : new Road[] {Road.PLANNED, Road.FULL}) {
            HaulFlows x = road.make();
            String name = " on a " + road.name() + " road";
            for (int s = 0; s < road.sources(); s++) {
                for (int f = 0; f < road.fills(); f++) {
                    DUE.is("11: " + s + " to " + f + name, x.moved(s, f, 0) >= 0 && x.moved(s, f, 1) >= 0, true);
                }
            }
            for (int c = 0; c < road.cuts(); c++) {
                DUE.is("19: cut " + c + name, x.level(c, 0) >= 0 && x.level(c, 1) >= 0, true);
                DUE.is("13: cut " + c + name, x.dual(0, c, 0) >= 0 && x.dual(0, c, 1) == 1, x.level(c, 1) > 0);
            }
            for (int f = 0; f < road.fills(); f++) {
                DUE.is("13: fill " + f + name, x.dual(1, f, 0) >= 0 && x.dual(1, f, 1) == 1, true);
            }
            for (int w = 0; w < road.ways(); w++) {
                DUE.is("15: way " + w + name, x.closure(w, 0) >= 0 && x.closure(w, 1) == 1, true);
            }
            for (int p = 0; p < 4; p++) {
                DUE.is("17: part " + p + name, x.mass(0, p) >= 0 && x.mass(100000, p) >= 0, true);
            }
        }
    }
}
