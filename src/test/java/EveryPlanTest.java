import java.util.Random;

/** Small roads, for which every plan there is can be looked at, one after the other. */
public final class EveryPlanTest {
    private static final Due DUE = new Due("EveryPlanTest");
    private static final int PIT = 99;

    private final Random random;
    private final String name;
    private final int cuts;
    private final int sources;
    private final int fills;
    private final boolean pit;
    private final int[] gives;
    private final int[] sourceMetre;
    private final int[] cutWeek;
    private final boolean[][] fit;
    private final int[] wants;
    private final int[] fillMetre;
    private final int[] fillWeek;
    private final int[] most = {PIT, PIT, PIT};
    private final int pitCents;
    private final int[] way = new int[3];
    private final boolean[] barred = new boolean[3];

    private int[][] now;
    private long bestCost;
    private int[][] best;
    private int greatest;
    private boolean[] shortIn;

    private EveryPlanTest(int seed) {
        random = new Random(seed);
        name = "seed " + seed + ": ";
        cuts = 1 + random.nextInt(3);
        pit = cuts < 3 && random.nextInt(3) == 0;
        sources = cuts + (pit ? 1 : 0);
        fills = 1 + random.nextInt(3);
        gives = new int[sources];
        sourceMetre = new int[sources];
        cutWeek = new int[cuts];
        fit = new boolean[cuts][fills];
        wants = new int[fills];
        fillMetre = new int[fills];
        fillWeek = new int[fills];
        pitCents = random.nextInt(3);
    }

    public static void main(String[] args) {
        int seeds = args.length > 0 ? Integer.parseInt(args[0]) : 3000;
        for (int seed = 0; seed < seeds && DUE.clean(); seed++) {
            new EveryPlanTest(seed).go();
        }
        DUE.end();
    }

    private void go() {
        HaulFlows x = new HaulFlows();
        furnish(x);
        search(true);
        boolean there = best != null;
        DUE.is(name + "run", Due.run(x, sources * fills), there ? 0 : 1);
        if (there) {
            comparePlan(x);
            compareChanges(x);
        } else {
            compareClashes(x);
        }
    }

    private void furnish(HaulFlows x) {
        for (int c = 0; c < cuts; c++) {
            gives[c] = 1 + random.nextInt(3);
            sourceMetre[c] = random.nextInt(4);
            cutWeek[c] = random.nextInt(4) == 0 ? random.nextInt(3) : 0;
            x.cut(gives[c], c, cutWeek[c], sourceMetre[c]);
        }
        if (pit) {
            gives[cuts] = PIT;
            sourceMetre[cuts] = random.nextInt(4);
            x.borrow(sourceMetre[cuts], pitCents);
        }
        for (int f = 0; f < fills; f++) {
            wants[f] = 1 + random.nextInt(3);
            fillMetre[f] = random.nextInt(4);
            fillWeek[f] = random.nextInt(3);
            x.fill(wants[f], fillWeek[f], fillMetre[f]);
            for (int c = 0; c < cuts; c++) {
                fit[c][f] = random.nextInt(5) > 0;
                x.fits(c, f, fit[c][f]);
            }
        }
        for (int w = 0; w < 3; w++) {
            if (random.nextInt(4) == 0) {
                most[w] = random.nextInt(7);
                x.most(w, most[w]);
            }
        }
        for (int i = 0; i < 3; i++) {
            way[i] = random.nextInt(i == 2 ? 2 : 4);
        }
        x.way(way[0], way[1], way[2]);
        int week = random.nextInt(3);
        barred[week] = true;
        x.bar(0, week, week);
    }

    private void comparePlan(HaulFlows x) {
        int[][] plan = best;
        for (int s = 0; s < sources; s++) {
            for (int f = 0; f < fills; f++) {
                DUE.is(name + "moved " + s + " " + f, x.moved(s, f, 0), plan[s][f]);
                DUE.is(name + "its cost", x.moved(s, f, 1), (long) plan[s][f] * unit(s, f, true));
            }
        }
        DUE.is(name + "cost", x.cost(0), bestCost);
        DUE.is(name + "clash", x.clash(0), -1);
    }

    private void compareChanges(HaulFlows x) {
        long base = bestCost;
        for (int c = 0; c < cuts; c++) {
            gives[c]--;
            compareChange("less of cut " + c, x.dual(0, c, 0), x.dual(0, c, 1), base, true);
            gives[c]++;
        }
        for (int f = 0; f < fills; f++) {
            wants[f]++;
            compareChange("more to fill " + f, x.dual(1, f, 0), x.dual(1, f, 1), base, true);
            wants[f]--;
        }
        compareChange("without the way", x.closure(0, 0), x.closure(0, 1), base, false);
    }

    private void compareChange(String what, long more, long there, long base, boolean open) {
        search(open);
        DUE.is(name + what, more, best == null ? 0 : bestCost - base);
        DUE.is(name + what + ", if there is", there, best == null ? 0 : 1);
    }

    private void compareClashes(HaulFlows x) {
        int k = 0;
        for (int f = 0; f < fills; f++) {
            if (shortIn[f]) {
                DUE.is(name + "clash " + k, x.clash(k), f);
                k++;
            }
        }
        DUE.is(name + "clash " + k, x.clash(k), -1);
        DUE.is(name + "cost", x.cost(0), -1);
    }

    private void search(boolean open) {
        now = new int[sources][fills];
        best = null;
        greatest = -1;
        shortIn = new boolean[fills];
        step(0, open);
    }

    /** Puts every amount that is possible into a cell, then goes on to the next one. */
    private void step(int cell, boolean open) {
        if (cell == sources * fills) {
            judge(open);
            return;
        }
        int s = cell / fills;
        int f = cell % fills;
        int room = Math.min(gives[s] - given(s), wants[f] - got(f));
        if (s < cuts && (!fit[s][f] || cutWeek[s] > fillWeek[f])) {
            room = 0;
        }
        room = Math.min(room, most[fillWeek[f]] - inWeek(fillWeek[f]));
        for (int amount = 0; amount <= room; amount++) {
            now[s][f] = amount;
            step(cell + 1, open);
        }
        now[s][f] = 0;
    }

    private void judge(boolean open) {
        int sum = 0;
        int wanted = 0;
        long cost = 0;
        for (int f = 0; f < fills; f++) {
            sum += got(f);
            wanted += wants[f];
            for (int s = 0; s < sources; s++) {
                cost += (long) now[s][f] * unit(s, f, open);
            }
        }
        if (sum > greatest) {
            greatest = sum;
            shortIn = new boolean[fills];
        }
        for (int f = 0; f < fills && sum == greatest; f++) {
            shortIn[f] |= got(f) < wants[f];
        }
        if (sum == wanted && (best == null || cost < bestCost || cost == bestCost && isBefore(now, best))) {
            bestCost = cost;
            best = new int[sources][];
            for (int s = 0; s < sources; s++) {
                best[s] = now[s].clone();
            }
        }
    }

    private boolean isBefore(int[][] a, int[][] b) {
        for (int s = 0; s < sources; s++) {
            for (int f = 0; f < fills; f++) {
                if (a[s][f] != b[s][f]) {
                    return a[s][f] > b[s][f];
                }
            }
        }
        return false;
    }

    private int unit(int s, int f, boolean open) {
        int a = sourceMetre[s];
        int b = fillMetre[f];
        int least = Math.abs(a - b);
        if (open && !barred[fillWeek[f]]) {
            least = Math.min(least, way[2] + Math.abs(a - way[0]) + Math.abs(way[1] - b));
            least = Math.min(least, way[2] + Math.abs(a - way[1]) + Math.abs(way[0] - b));
        }
        return least + (s < cuts ? 0 : pitCents);
    }

    private int given(int s) {
        int sum = 0;
        for (int f = 0; f < fills; f++) {
            sum += now[s][f];
        }
        return sum;
    }

    private int got(int f) {
        int sum = 0;
        for (int s = 0; s < sources; s++) {
            sum += now[s][f];
        }
        return sum;
    }

    private int inWeek(int week) {
        int sum = 0;
        for (int f = 0; f < fills; f++) {
            sum += fillWeek[f] == week ? got(f) : 0;
        }
        return sum;
    }
}
