/** Each promise of the document by its number: ordinary inputs, the edges, wrong inputs. */
public final class PromisesTest {
    private static final Due DUE = new Due("PromisesTest");
    private static final long BAD = -1;
    private static final int[] OUTSIDE = {-1, Integer.MIN_VALUE, Integer.MAX_VALUE};
    private static final long BIG = 1L << 32;

    public static void main(String[] args) {
        newObject();
        cut();
        fill();
        swell();
        fits();
        way();
        wayCosts();
        bar();
        borrow();
        most();
        run();
        firstOfTheBest();
        moved();
        cost();
        dual();
        dualAcross();
        clash();
        clashKinds();
        closure();
        list();
        mass();
        check();
        level();
        changesDropThePlan();
        refusalsKeepThePlan();
        changesDropTheClash();
        refusalsKeepTheClash();
        largest();
        DUE.end();
    }

    private static void is(String call, long got, long want) {
        DUE.is(call, got, want);
    }

    private static void is(String call, boolean got, boolean want) {
        DUE.is(call, got, want);
    }

    private static void runs(HaulFlows x, int want) {
        is("run", Due.run(x, 96), want);
    }

    /** Two cuts, two fills, a pit and a way; the plan is made. */
    private static HaulFlows road() {
        HaulFlows x = new HaulFlows();
        x.cut(100, 0, 0, 0);
        x.cut(50, 1, 2, 100);
        x.fill(60, 3, 50);
        x.fill(80, 1, 10);
        x.borrow(200, 5);
        x.way(0, 50, 1);
        x.run(96);
        return x;
    }

    /** A fill that wants more than there is; the run is 1. */
    private static HaulFlows dearth() {
        HaulFlows x = new HaulFlows();
        x.cut(5, 0, 0, 0);
        x.way(0, 1, 1);
        x.fill(6, 0, 0);
        x.run(96);
        return x;
    }

    private static void newObject() {
        HaulFlows x = new HaulFlows();
        is("1: cost", x.cost(0), BAD);
        is("1: moved", x.moved(0, 0, 0), BAD);
        is("1: check", x.check(), BAD);
        is("1: clash", x.clash(0), BAD);
        is("1: level", x.level(0, 0), BAD);
        is("1: dual 0", x.dual(0, 0, 0), BAD);
        is("1: dual 1", x.dual(1, 0, 1), BAD);
        is("1: closure", x.closure(0, 0), BAD);
        is("1: list", x.list(0, 0, 0), BAD);
        is("1: mass 0", x.mass(0, 0), 0);
        is("1: mass 1", x.mass(100000, 1), 0);
        is("1: mass 2", x.mass(0, 2), BAD);
        is("1: mass 3", x.mass(0, 3), BAD);
        is("1: bar", x.bar(0, 0, 0), false);
        is("1: fits", x.fits(0, 0, true), false);
        is("1: run", Due.run(x, 0), 0);
        is("1: cost of nothing", x.cost(0), 0);
        is("1: moved of nothing", x.moved(0, 0, 0), BAD);
        is("1: check of nothing", x.check(), 0);
        HaulFlows y = new HaulFlows();
        y.cut(1, 0, 0, 0);
        is("1: objects share nothing", x.mass(0, 0), 0);
        is("1: first cut of another one", x.cut(1, 0, 0, 0), 0);
    }

    private static void cut() {
        HaulFlows x = new HaulFlows();
        is("2: volume 0", x.cut(0, 0, 0, 0), BAD);
        is("2: volume -1", x.cut(-1, 0, 0, 0), BAD);
        is("2: volume 1,000,001", x.cut(1000001, 0, 0, 0), BAD);
        is("2: volume beyond int", x.cut(BIG + 1, 0, 0, 0), BAD);
        for (int outside : OUTSIDE) {
            is("2: kind " + outside, x.cut(1, outside, 0, 0), BAD);
            is("2: week " + outside, x.cut(1, 0, outside, 0), BAD);
            is("2: metre " + outside, x.cut(1, 0, 0, outside), BAD);
        }
        is("2: kind 4", x.cut(1, 4, 0, 0), BAD);
        is("2: week 12", x.cut(1, 0, 12, 0), BAD);
        is("2: metre 100,001", x.cut(1, 0, 0, 100001), BAD);
        is("2: metre beyond int", x.cut(1, 0, 0, BIG), BAD);
        is("2: least", x.cut(1, 0, 0, 0), 0);
        is("2: greatest", x.cut(1000000, 3, 11, 100000), 1);
        for (int i = 2; i < 8; i++) {
            is("2: cut " + i, x.cut(i, 1, 1, i), i);
        }
        is("2: a ninth", x.cut(1, 0, 0, 0), BAD);
        is("2: a ninth again", x.cut(1, 0, 0, 0), BAD);
        is("2: what they give", x.mass(100000, 0), 1 + 1000000 + 2 + 3 + 4 + 5 + 6 + 7);
        is("2: what they give up to 99,999", x.mass(99999, 0), 1 + 2 + 3 + 4 + 5 + 6 + 7);
        HaulFlows y = new HaulFlows();
        y.cut(5, 0, 4, 10);
        y.fill(5, 3, 10);
        runs(y, 1);
        HaulFlows z = new HaulFlows();
        z.cut(5, 0, 4, 10);
        z.fill(5, 4, 10);
        runs(z, 0);
        is("2: used in its own week", z.moved(0, 0, 0), 5);
    }

    private static void fill() {
        HaulFlows x = new HaulFlows();
        is("3: volume 0", x.fill(0, 0, 0), BAD);
        is("3: volume -1", x.fill(-1, 0, 0), BAD);
        is("3: volume 1,000,001", x.fill(1000001, 0, 0), BAD);
        is("3: volume beyond int", x.fill(BIG + 1, 0, 0), BAD);
        for (int outside : OUTSIDE) {
            is("3: week " + outside, x.fill(1, outside, 0), BAD);
            is("3: metre " + outside, x.fill(1, 0, outside), BAD);
        }
        is("3: week 12", x.fill(1, 12, 0), BAD);
        is("3: metre 100,001", x.fill(1, 0, 100001), BAD);
        is("3: metre beyond int", x.fill(1, 0, BIG), BAD);
        is("3: least", x.fill(1, 0, 0), 0);
        is("3: greatest", x.fill(1000000, 11, 100000), 1);
        for (int i = 2; i < 8; i++) {
            is("3: fill " + i, x.fill(i, 1, i), i);
        }
        is("3: a ninth", x.fill(1, 0, 0), BAD);
        is("3: what they want", x.mass(100000, 1), 1 + 1000000 + 2 + 3 + 4 + 5 + 6 + 7);
    }

    private static void swell() {
        HaulFlows x = new HaulFlows();
        x.cut(10, 0, 0, 0);
        x.cut(7, 3, 0, 0);
        is("4: 1 / 1 at first", x.mass(0, 0), 17);
        is("4: above 0", x.swell(0, 0, 1), false);
        is("4: below 0", x.swell(0, 1, 0), false);
        is("4: above 1,001", x.swell(0, 1001, 1), false);
        is("4: below 1,001", x.swell(0, 1, 1001), false);
        is("4: above -1", x.swell(0, -1, 1), false);
        is("4: below -1", x.swell(0, 1, -1), false);
        is("4: above beyond int", x.swell(0, BIG + 1, 1), false);
        is("4: below beyond int", x.swell(0, 1, BIG + 1), false);
        is("4: kind 4", x.swell(4, 1, 1), false);
        for (int outside : OUTSIDE) {
            is("4: kind " + outside, x.swell(outside, 1, 1), false);
        }
        is("4: refused ones change nothing", x.mass(0, 0), 17);
        is("4: greatest", x.swell(0, 1000, 1), true);
        is("4: it swells its kind alone", x.mass(0, 0), 10007);
        is("4: cut off", x.swell(3, 2, 3), true);
        is("4: 7 * 2 / 3 is 4", x.mass(0, 0), 10004);
        is("4: again", x.swell(0, 2, 3), true);
        is("4: not upon what was", x.mass(0, 0), 6 + 4);
        is("4: least", x.swell(3, 1, 1000), true);
        is("4: 7 / 1,000 is 0", x.mass(0, 0), 6);
        x.swell(3, 1000, 1000);
        is("4: 7 again", x.mass(0, 0), 13);
        x.fill(13, 0, 0);
        runs(x, 0);
        is("4: level", x.level(0, 1), 6);
        x.fill(1, 0, 0);
        runs(x, 1);
        x.swell(0, 7, 10);
        runs(x, 0);
        is("4: a kind of later cuts", x.cut(100, 3, 0, 1), 2);
        x.swell(3, 1, 50);
        is("4: 7 + 0 + 2", x.mass(1, 0), 7 + 0 + 2);
    }

    private static void fits() {
        HaulFlows x = new HaulFlows();
        x.cut(10, 3, 0, 0);
        x.cut(10, 0, 0, 9);
        x.fill(5, 0, 0);
        x.fill(5, 0, 0);
        runs(x, 0);
        is("5: at first all do", x.moved(0, 1, 0), 5);
        is("5: kind 4", x.fits(4, 0, false), false);
        is("5: fill 2", x.fits(0, 2, false), false);
        for (int outside : OUTSIDE) {
            is("5: kind " + outside, x.fits(outside, 0, false), false);
            is("5: fill " + outside, x.fits(3, outside, false), false);
        }
        is("5: still planned", x.cost(0), 0);
        is("5: off", x.fits(3, 1, false), true);
        runs(x, 0);
        is("5: other fills keep it", x.moved(0, 0, 0), 5);
        is("5: no longer", x.moved(0, 1, 0), 0);
        is("5: another kind", x.moved(1, 1, 0), 5);
        is("5: cost", x.cost(0), 45);
        is("5: on", x.fits(3, 1, true), true);
        runs(x, 0);
        is("5: again", x.moved(0, 1, 0), 5);
        x.fits(3, 1, false);
        x.borrow(0, 0);
        runs(x, 0);
        is("5: a pit serves all", x.moved(2, 1, 0), 5);
        for (int f = 2; f < 8; f++) {
            x.fill(1, 0, 0);
        }
        is("5: fill 7", x.fits(3, 7, false), true);
        runs(x, 0);
        is("5: fill 6 by the cut", x.moved(0, 6, 0) + x.moved(2, 6, 0), 1);
        is("5: fill 7 not by the cut", x.moved(0, 7, 0), 0);
    }

    private static void way() {
        HaulFlows x = new HaulFlows();
        for (int outside : OUTSIDE) {
            is("6: from " + outside, x.way(outside, 0, 0), BAD);
            is("6: to " + outside, x.way(0, outside, 0), BAD);
            is("6: cents " + outside, x.way(0, 0, outside), BAD);
        }
        is("6: from 100,001", x.way(100001, 0, 0), BAD);
        is("6: to 100,001", x.way(0, 100001, 0), BAD);
        is("6: cents 100,001", x.way(0, 0, 100001), BAD);
        is("6: from beyond int", x.way(BIG, 0, 0), BAD);
        is("6: to beyond int", x.way(0, BIG, 0), BAD);
        is("6: cents beyond int", x.way(0, 0, BIG), BAD);
        is("6: least", x.way(0, 0, 0), 0);
        is("6: greatest", x.way(100000, 100000, 100000), 1);
        for (int i = 2; i < 6; i++) {
            is("6: way " + i, x.way(i, 0, 0), i);
        }
        is("6: a seventh", x.way(0, 0, 0), BAD);
    }

    private static void wayCosts() {
        is("6: no way", price(20, 80, new long[0][]), 60);
        is("6: a way in full", price(20, 80, new long[][] {{20, 80, 7}}), 7);
        is("6: the other way round", price(20, 80, new long[][] {{80, 20, 7}}), 7);
        is("6: to its end and from its other end", price(20, 80, new long[][] {{15, 90, 7}}), 5 + 7 + 10);
        is("6: and round", price(20, 80, new long[][] {{90, 15, 7}}), 5 + 7 + 10);
        is("6: backwards", price(80, 20, new long[][] {{15, 90, 7}}), 5 + 7 + 10);
        is("6: dearer", price(20, 80, new long[][] {{20, 80, 61}}), 60);
        is("6: as dear", price(20, 80, new long[][] {{20, 80, 60}}), 60);
        is("6: less by one", price(20, 80, new long[][] {{20, 80, 59}}), 59);
        is("6: one of two", price(20, 80, new long[][] {{20, 50, 0}, {50, 80, 0}}), 30);
        is("6: the better one", price(20, 80, new long[][] {{20, 70, 5}, {30, 80, 4}}), 14);
        is("6: the last one", price(0, 100000, new long[][] {{0, 100000, 9}, {0, 100000, 8}, {0, 100000, 7},
            {0, 100000, 6}, {0, 100000, 5}, {0, 100000, 4}}), 4);
        is("6: a way to itself", price(20, 80, new long[][] {{50, 50, 0}}), 60);
    }

    private static long price(long from, long to, long[][] ways) {
        HaulFlows x = new HaulFlows();
        x.cut(3, 0, 0, from);
        x.fill(1, 0, to);
        for (long[] way : ways) {
            x.way(way[0], way[1], way[2]);
        }
        x.run(1);
        return x.cost(0);
    }

    private static void bar() {
        HaulFlows x = new HaulFlows();
        is("7: no way", x.bar(0, 0, 0), false);
        x.way(0, 100, 1);
        x.way(0, 100, 30);
        for (int outside : OUTSIDE) {
            is("7: way " + outside, x.bar(outside, 0, 0), false);
            is("7: from " + outside, x.bar(0, outside, 11), false);
            is("7: to " + outside, x.bar(0, 0, outside), false);
        }
        is("7: way 2", x.bar(2, 0, 0), false);
        is("7: to 12", x.bar(0, 0, 12), false);
        is("7: from 12", x.bar(0, 12, 12), false);
        is("7: first behind last", x.bar(0, 5, 4), false);
        is("7: not barred at first", pricesByWeek(), 111111111111L);
        is("7: one week", pricesByWeek(3, 3), 111211111111L);
        is("7: weeks, both of them too", pricesByWeek(3, 6), 111222211111L);
        is("7: all weeks", pricesByWeek(0, 11), 222222222222L);
        is("7: first week", pricesByWeek(0, 0), 211111111111L);
        is("7: last week", pricesByWeek(11, 11), 111111111112L);
        is("7: beside what was barred", pricesByWeek(1, 2, 5, 6, 2, 3, 2, 2), 122212211111L);
        x.cut(1, 0, 11, 0);
        x.fill(1, 11, 100);
        is("7: its own way alone", x.bar(1, 0, 11), true);
        runs(x, 0);
        is("7: cost", x.cost(0), 1);
        is("7: both", x.bar(0, 11, 11), true);
        runs(x, 0);
        is("7: cost without ways", x.cost(0), 100);
    }

    /** For each week a digit: 1 by the way, 2 without it; bars come as pairs of weeks. */
    private static long pricesByWeek(int... bars) {
        long digits = 0;
        for (int week = 0; week < 12; week++) {
            HaulFlows x = new HaulFlows();
            x.cut(1, 0, 0, 0);
            x.fill(1, week, 2);
            x.way(0, 2, 1);
            for (int i = 0; i + 1 < bars.length; i += 2) {
                is("7: bar", x.bar(0, bars[i], bars[i + 1]), true);
            }
            x.run(1);
            digits = digits * 10 + x.cost(0);
        }
        return digits;
    }

    private static void borrow() {
        HaulFlows x = new HaulFlows();
        for (int outside : OUTSIDE) {
            is("8: metre " + outside, x.borrow(outside, 0), BAD);
            is("8: cents " + outside, x.borrow(0, outside), BAD);
        }
        is("8: metre 100,001", x.borrow(100001, 0), BAD);
        is("8: cents 100,001", x.borrow(0, 100001), BAD);
        is("8: metre beyond int", x.borrow(BIG, 0), BAD);
        is("8: cents beyond int", x.borrow(0, BIG), BAD);
        is("8: least", x.borrow(0, 0), 0);
        is("8: greatest", x.borrow(100000, 100000), 1);
        is("8: pit 2", x.borrow(40, 3), 2);
        is("8: pit 3", x.borrow(50, 2), 3);
        is("8: a fifth", x.borrow(0, 0), BAD);
        is("8: they give nothing by themselves", x.mass(100000, 0), 0);
        x.fill(1000000, 0, 45);
        x.fill(1000000, 0, 100000);
        runs(x, 0);
        is("8: the cheaper one", x.moved(3, 0, 0), 1000000);
        is("8: cents more a unit", x.moved(3, 0, 1), 7000000);
        is("8: far", x.moved(3, 1, 1), 99952000000L);
        HaulFlows y = new HaulFlows();
        y.borrow(10, 4);
        y.fill(2, 0, 20);
        y.fill(3, 11, 20);
        y.way(10, 20, 1);
        y.bar(0, 0, 5);
        runs(y, 0);
        is("8: in all weeks", y.cost(1), 5);
        is("8: by a way too, with its cents", y.cost(0), 2 * 14 + 3 * 5);
        y.cut(1, 0, 0, 0);
        runs(y, 0);
        is("8: sources are the cuts, then the pits", y.moved(1, 1, 0), 3);
        is("8: the cut is dearer", y.moved(0, 0, 0) + y.moved(0, 1, 0), 0);
    }

    private static void most() {
        HaulFlows x = new HaulFlows();
        for (int outside : OUTSIDE) {
            is("9: week " + outside, x.most(outside, 0), false);
        }
        is("9: week 12", x.most(12, 0), false);
        is("9: -1", x.most(0, -1), false);
        is("9: 10,000,001", x.most(0, 10000001), false);
        is("9: beyond int", x.most(0, BIG), false);
        is("9: least", x.most(0, 0), true);
        is("9: greatest", x.most(11, 10000000), true);
        x.borrow(0, 0);
        runs(x, 0);
        x.fill(7, 0, 0);
        x.fill(8, 1, 0);
        x.fill(9, 1, 0);
        runs(x, 1);
        is("9: week 0 alone", x.clash(0), 0);
        is("9: no other", x.clash(1), BAD);
        x.most(0, 6);
        runs(x, 1);
        x.most(0, 7);
        runs(x, 0);
        x.most(1, 16);
        runs(x, 1);
        is("9: all of week 1", x.clash(0), 1);
        is("9: all of week 1, second", x.clash(1), 2);
        is("9: not week 0", x.clash(2), BAD);
        x.most(1, 17);
        runs(x, 0);
        is("9: moved", x.cost(1), 24);
    }

    private static void run() {
        HaulFlows x = new HaulFlows();
        is("10: 0 > -1", Due.run(x, -1), Due.ILLEGAL_STATE);
        is("10: 0 > least", Due.run(x, Integer.MIN_VALUE), Due.ILLEGAL_STATE);
        is("10: no plan by it", x.cost(0), BAD);
        is("10: nothing to do", Due.run(x, 0), 0);
        x.fill(3, 0, 0);
        is("10: fills alone", Due.run(x, 0), 1);
        is("10: clash", x.clash(0), 0);
        x.cut(2, 0, 0, 0);
        x.borrow(1, 0);
        x.fill(3, 0, 9);
        is("10: 3 steps of 4", Due.run(x, 3), Due.ILLEGAL_STATE);
        is("10: 4 steps", Due.run(x, 4), 0);
        is("10: cost", x.cost(0), 1 + 2 * 0 + 3 * 8);
        is("10: too few steps again", Due.run(x, 3), Due.ILLEGAL_STATE);
        is("10: what was planned stays", x.cost(0), 25);
        is("10: moved stays", x.moved(0, 0, 0), 2);
        is("10: the same again", Due.run(x, Integer.MAX_VALUE), 0);
        is("10: cost again", x.cost(0), 25);
        HaulFlows y = dearth();
        is("10: too few steps", Due.run(y, 0), Due.ILLEGAL_STATE);
        is("10: the clash stays", y.clash(0), 0);
        is("10: again", Due.run(y, 1), 1);
        is("10: clash again", y.clash(0), 0);
        HaulFlows z = new HaulFlows();
        for (int i = 0; i < 8; i++) {
            z.cut(1, 0, 0, 0);
            z.fill(1, 0, 0);
        }
        for (int i = 0; i < 4; i++) {
            z.borrow(0, 0);
        }
        is("10: 95 steps", Due.run(z, 95), Due.ILLEGAL_STATE);
        is("10: 96 steps", Due.run(z, 96), 0);
        HaulFlows dear = new HaulFlows();
        dear.cut(10, 0, 0, 0);
        dear.cut(10, 0, 0, 10);
        dear.fill(10, 0, 4);
        dear.fill(10, 0, 0);
        runs(dear, 0);
        is("10: least cost in all, not fill by fill", dear.cost(0), 60);
        is("10: the near cut is kept for the other fill", dear.moved(0, 1, 0), 10);
    }

    private static void firstOfTheBest() {
        HaulFlows x = new HaulFlows();
        for (int i = 0; i < 3; i++) {
            x.cut(4, 0, 0, 5);
            x.fill(3, 0, 5);
        }
        runs(x, 0);
        amounts("10: most from the first to the first", x, "310 022 001");
        x.borrow(5, 0);
        runs(x, 0);
        amounts("10: pits come last", x, "310 022 001 000");
        HaulFlows y = new HaulFlows();
        y.cut(2, 0, 0, 0);
        y.cut(2, 0, 0, 10);
        y.fill(2, 0, 0);
        y.fill(2, 0, 0);
        runs(y, 0);
        amounts("10: the same cost either way", y, "20 02");
        HaulFlows late = new HaulFlows();
        late.cut(4, 0, 5, 0);
        late.cut(4, 0, 0, 0);
        late.fill(4, 3, 0);
        late.fill(4, 5, 0);
        runs(late, 0);
        amounts("10: only the second serves the first", late, "04 40");
        HaulFlows left = new HaulFlows();
        left.cut(3, 0, 0, 10);
        left.cut(9, 0, 0, 10);
        left.fill(1, 0, 0);
        left.fill(1, 0, 10);
        left.fill(3, 0, 20);
        runs(left, 0);
        amounts("10: what is left over is left in the later ones", left, "111 002");
        HaulFlows ring = new HaulFlows();
        ring.cut(3, 0, 0, 0);
        ring.cut(3, 1, 0, 0);
        ring.cut(3, 2, 0, 0);
        ring.fill(3, 0, 7);
        ring.fill(3, 0, 7);
        ring.fill(3, 0, 7);
        ring.fits(1, 1, false);
        ring.fits(2, 0, false);
        runs(ring, 0);
        amounts("10: by a ring of three", ring, "300 003 030");
        ring.fits(0, 0, false);
        runs(ring, 0);
        amounts("10: without its first cell", ring, "030 300 003");
        HaulFlows cheap = new HaulFlows();
        cheap.cut(5, 0, 0, 1);
        cheap.cut(5, 0, 0, 0);
        cheap.fill(5, 0, 0);
        runs(cheap, 0);
        amounts("10: cost before order", cheap, "0 5");
    }

    private static void amounts(String name, HaulFlows x, String rows) {
        int source = 0;
        for (String row : rows.split(" ")) {
            for (int fill = 0; fill < row.length(); fill++) {
                is(name + ": " + source + " to " + fill, x.moved(source, fill, 0), row.charAt(fill) - '0');
            }
            source++;
        }
        is(name + ": sources", x.moved(source, 0, 0), BAD);
    }

    private static void moved() {
        HaulFlows x = road();
        is("11: 0 to 0", x.moved(0, 0, 0), 20);
        is("11: 0 to 1", x.moved(0, 1, 0), 80);
        is("11: its cost", x.moved(0, 1, 1), 800);
        is("11: by the way", x.moved(0, 0, 1), 20);
        is("11: 1 to 0", x.moved(1, 0, 0), 40);
        is("11: its cost, direct", x.moved(1, 0, 1), 2000);
        is("11: what it does not serve", x.moved(1, 1, 0), 0);
        is("11: what that costs", x.moved(1, 1, 1), 0);
        is("11: the pit", x.moved(2, 0, 0), 0);
        is("11: the pit's cost", x.moved(2, 0, 1), 0);
        is("11: source 3", x.moved(3, 0, 0), BAD);
        is("11: fill 2", x.moved(0, 2, 0), BAD);
        is("11: part 2", x.moved(0, 0, 2), BAD);
        for (int outside : OUTSIDE) {
            is("11: source " + outside, x.moved(outside, 0, 0), BAD);
            is("11: fill " + outside, x.moved(0, outside, 0), BAD);
            is("11: part " + outside, x.moved(0, 0, outside), BAD);
        }
        is("11: no plan", dearth().moved(0, 0, 0), BAD);
        HaulFlows y = new HaulFlows();
        y.borrow(10, 5);
        y.fill(3, 0, 0);
        runs(y, 0);
        is("11: a pit's cents are in it", y.moved(0, 0, 1), 45);
    }

    private static void cost() {
        HaulFlows x = road();
        is("12: cost", x.cost(0), 20 + 800 + 2000);
        is("12: moved", x.cost(1), 140);
        is("12: from pits", x.cost(2), 0);
        is("12: part 3", x.cost(3), BAD);
        for (int outside : OUTSIDE) {
            is("12: part " + outside, x.cost(outside), BAD);
        }
        x.fill(30, 4, 300);
        runs(x, 0);
        is("12: cost", x.cost(0), 20 + 800 + 2000 + 30 * 105);
        is("12: moved", x.cost(1), 170);
        is("12: from pits", x.cost(2), 30);
        for (int part = 0; part < 3; part++) {
            is("12: no plan", dearth().cost(part), BAD);
        }
    }

    private static void dual() {
        HaulFlows x = road();
        is("13: one less of cut 0", x.dual(0, 0, 0), 49);
        is("13: there is", x.dual(0, 0, 1), 1);
        is("13: one less of cut 1, which has some left", x.dual(0, 1, 0), 0);
        is("13: there is", x.dual(0, 1, 1), 1);
        is("13: one more for fill 0", x.dual(1, 0, 0), 50);
        is("13: there is", x.dual(1, 0, 1), 1);
        is("13: one more for fill 1, others give way", x.dual(1, 1, 0), 59);
        is("13: cut 2", x.dual(0, 2, 0), BAD);
        is("13: fill 2", x.dual(1, 2, 0), BAD);
        is("13: side 2", x.dual(2, 0, 0), BAD);
        is("13: part 2", x.dual(0, 0, 2), BAD);
        for (int outside : OUTSIDE) {
            is("13: side " + outside, x.dual(outside, 0, 0), BAD);
            is("13: cut " + outside, x.dual(0, outside, 0), BAD);
            is("13: fill " + outside, x.dual(1, outside, 0), BAD);
            is("13: part " + outside, x.dual(0, 0, outside), BAD);
        }
        is("13: the plan stays", x.cost(0), 2820);
        is("13: its amounts too", x.moved(0, 0, 0), 20);
        x.most(3, 60);
        runs(x, 0);
        is("13: the week is full", x.dual(1, 0, 1), 0);
        is("13: part 0 then", x.dual(1, 0, 0), 0);
        is("13: another week is not", x.dual(1, 1, 1), 1);
        x.most(3, 61);
        runs(x, 0);
        is("13: room for one", x.dual(1, 0, 0), 50);
        HaulFlows none = dearth();
        for (int side = 0; side < 2; side++) {
            is("13: no plan", none.dual(side, 0, 0), BAD);
            is("13: no plan, part 1", none.dual(side, 0, 1), BAD);
        }
    }

    private static void dualAcross() {
        HaulFlows x = new HaulFlows();
        x.cut(5, 0, 0, 7);
        x.fill(5, 0, 0);
        runs(x, 0);
        is("13: no plan with one less", x.dual(0, 0, 1), 0);
        is("13: part 0 then", x.dual(0, 0, 0), 0);
        is("13: nor with one more", x.dual(1, 0, 1), 0);
        is("13: part 0 then", x.dual(1, 0, 0), 0);
        x.cut(1, 1, 0, 0);
        x.swell(1, 1, 2);
        runs(x, 0);
        is("13: the cut gives nothing", x.dual(0, 1, 0), BAD);
        is("13: part 1 of that", x.dual(0, 1, 1), BAD);
        is("13: it is no help", x.dual(0, 0, 1), 0);
        x.swell(1, 1, 1);
        runs(x, 0);
        is("13: now it is used", x.moved(1, 0, 0), 1);
        is("13: one less of the last unit", x.dual(0, 1, 0), 7);
        is("13: one left in the far cut", x.dual(1, 0, 0), 7);
        is("13: which can be missed", x.dual(0, 0, 0), 0);
        HaulFlows big = new HaulFlows();
        big.borrow(3, 0);
        big.fill(1000000, 0, 0);
        runs(big, 0);
        is("13: more than a fill may want", big.dual(1, 0, 0), 3);
        is("13: a pit is no cut", big.dual(0, 0, 0), BAD);
        HaulFlows step = new HaulFlows();
        step.cut(1, 0, 0, 0);
        step.cut(1, 0, 0, 3);
        step.fill(1, 0, 1);
        step.borrow(100, 0);
        runs(step, 0);
        is("13: not what a unit costs now", step.dual(1, 0, 0), 2);
        is("13: the next best source", step.dual(0, 0, 0), 1);
    }

    private static void clash() {
        HaulFlows x = dearth();
        is("14: the first", x.clash(0), 0);
        is("14: no second", x.clash(1), BAD);
        for (int outside : OUTSIDE) {
            is("14: " + outside, x.clash(outside), BAD);
        }
        HaulFlows planned = road();
        is("14: the last run was 0", planned.clash(0), BAD);
        HaulFlows y = new HaulFlows();
        for (int i = 0; i < 8; i++) {
            y.fill(1, i, 0);
        }
        is("14: not run", y.clash(0), BAD);
        is("14: run", Due.run(y, 0), 1);
        for (int i = 0; i < 8; i++) {
            is("14: by numbers", y.clash(i), i);
        }
        is("14: no ninth", y.clash(8), BAD);
        y.borrow(0, 0);
        is("14: something was changed", y.clash(0), BAD);
        runs(y, 0);
        is("14: none", y.clash(0), BAD);
        y.most(5, 0);
        runs(y, 1);
        is("14: from the beginning again", y.clash(0), 5);
        is("14: alone", y.clash(1), BAD);
    }

    private static void clashKinds() {
        HaulFlows x = new HaulFlows();
        x.cut(5, 0, 0, 0);
        x.cut(9, 1, 0, 0);
        x.fill(4, 0, 0);
        x.fill(4, 0, 0);
        x.fill(9, 0, 0);
        x.fits(0, 2, false);
        x.fits(1, 0, false);
        x.fits(1, 1, false);
        runs(x, 1);
        is("14: those that share too little", x.clash(0), 0);
        is("14: both", x.clash(1), 1);
        is("14: not the one that has enough", x.clash(2), BAD);
        x.fits(1, 1, true);
        runs(x, 1);
        is("14: now all three may be short", x.clash(2), 2);
        HaulFlows y = new HaulFlows();
        y.cut(5, 0, 3, 0);
        y.cut(5, 0, 0, 0);
        y.fill(6, 0, 0);
        y.fill(4, 3, 0);
        runs(y, 1);
        is("14: the early one is short", y.clash(0), 0);
        is("14: the late one need not be", y.clash(1), BAD);
        HaulFlows weeks = new HaulFlows();
        weeks.cut(10, 0, 0, 0);
        weeks.fill(6, 0, 0);
        weeks.fill(6, 1, 0);
        weeks.most(0, 5);
        runs(weeks, 1);
        is("14: by the week and by the cut", weeks.clash(0), 0);
        is("14: the other takes less in some way", weeks.clash(1), 1);
        weeks.most(0, 4);
        runs(weeks, 1);
        is("14: by the week alone", weeks.clash(0), 0);
        is("14: the other one gets all", weeks.clash(1), BAD);
        weeks.fill(1, 0, 0);
        runs(weeks, 1);
        is("14: two in the bound week", weeks.clash(0), 0);
        is("14: the second of them", weeks.clash(1), 2);
        is("14: no third", weeks.clash(2), BAD);
    }

    private static void closure() {
        HaulFlows x = road();
        is("15: without the way", x.closure(0, 0), 980);
        is("15: there is", x.closure(0, 1), 1);
        is("15: way 1", x.closure(1, 0), BAD);
        is("15: part 2", x.closure(0, 2), BAD);
        for (int outside : OUTSIDE) {
            is("15: way " + outside, x.closure(outside, 0), BAD);
            is("15: part " + outside, x.closure(0, outside), BAD);
        }
        is("15: the plan stays", x.cost(0), 2820);
        is("15: its amounts too", x.moved(0, 0, 1), 20);
        is("15: and what a unit less costs", x.dual(0, 0, 0), 49);
        x.way(50, 0, 3);
        x.way(300, 400, 0);
        runs(x, 0);
        is("15: another one steps in", x.closure(0, 0), 40);
        is("15: one that is not used", x.closure(1, 0), 0);
        is("15: nor that", x.closure(2, 0), 0);
        is("15: there is", x.closure(2, 1), 1);
        x.bar(0, 3, 3);
        runs(x, 0);
        is("15: barred", x.closure(0, 0), 0);
        is("15: the other", x.closure(1, 0), 940);
        is("15: no plan", dearth().closure(0, 0), BAD);
        is("15: no plan, part 1", dearth().closure(0, 1), BAD);
        HaulFlows other = new HaulFlows();
        other.cut(5, 0, 0, 0);
        other.cut(5, 0, 0, 60);
        other.fill(5, 0, 100);
        other.way(0, 100, 1);
        runs(other, 0);
        is("15: by the way", other.cost(0), 5);
        is("15: another source steps in", other.closure(0, 0), 5 * 39);
    }

    private static void list() {
        HaulFlows x = new HaulFlows();
        x.cut(5, 0, 0, 0);
        x.cut(5, 1, 0, 10);
        x.borrow(20, 0);
        x.fill(3, 2, 10);
        x.fill(4, 2, 0);
        x.fill(4, 7, 20);
        x.fill(1, 2, 20);
        x.fits(0, 2, false);
        x.fits(1, 1, false);
        is("16: not planned", x.list(2, 0, 0), BAD);
        runs(x, 0);
        moves("16: week 2", x, 2, new int[][] {{0, 1, 4}, {1, 0, 3}, {2, 3, 1}});
        moves("16: week 7", x, 7, new int[][] {{2, 2, 4}});
        moves("16: week 0", x, 0, new int[0][]);
        moves("16: week 11", x, 11, new int[0][]);
        is("16: week 12", x.list(12, 0, 0), BAD);
        is("16: what 3", x.list(2, 0, 3), BAD);
        for (int outside : OUTSIDE) {
            is("16: week " + outside, x.list(outside, 0, 0), BAD);
            is("16: k " + outside, x.list(2, outside, 0), BAD);
            is("16: what " + outside, x.list(2, 0, outside), BAD);
        }
        HaulFlows y = new HaulFlows();
        y.cut(9, 0, 0, 0);
        y.cut(9, 0, 0, 0);
        y.fill(6, 11, 0);
        y.fill(6, 11, 0);
        y.fill(6, 11, 0);
        runs(y, 0);
        moves("16: by source, then by fill", y, 11, new int[][] {{0, 0, 6}, {0, 1, 3}, {1, 1, 3}, {1, 2, 6}});
        is("16: no plan", dearth().list(0, 0, 0), BAD);
    }

    private static void moves(String name, HaulFlows x, int week, int[][] moves) {
        for (int k = 0; k < moves.length; k++) {
            for (int what = 0; what < 3; what++) {
                is(name + ", move " + k, x.list(week, k, what), moves[k][what]);
            }
        }
        for (int what = 0; what < 3; what++) {
            is(name + ", behind the last", x.list(week, moves.length, what), BAD);
        }
    }

    private static void mass() {
        HaulFlows x = new HaulFlows();
        x.cut(10, 0, 0, 20);
        x.cut(10, 1, 0, 60);
        x.swell(1, 3, 2);
        x.borrow(80, 0);
        x.fill(4, 0, 40);
        x.fill(12, 0, 50);
        x.fill(20, 0, 70);
        is("17: cuts up to 19", x.mass(19, 0), 0);
        is("17: that one too", x.mass(20, 0), 10);
        is("17: cuts up to 59", x.mass(59, 0), 10);
        is("17: with what they swell", x.mass(60, 0), 25);
        is("17: no pits", x.mass(100000, 0), 25);
        is("17: fills up to 39", x.mass(39, 1), 0);
        is("17: fills up to 40", x.mass(40, 1), 4);
        is("17: fills up to 50", x.mass(50, 1), 16);
        is("17: all fills", x.mass(100000, 1), 36);
        is("17: no plan", x.mass(50, 2), BAD);
        is("17: no plan, 3", x.mass(50, 3), BAD);
        runs(x, 0);
        is("17: cost", x.cost(0), 4 * 20 + 12 * 10 + 20 * 10);
        across(x, 0, 0, 0);
        across(x, 19, 0, 0);
        across(x, 20, 4, 0);
        across(x, 39, 4, 0);
        across(x, 40, 0, 0);
        across(x, 49, 0, 0);
        across(x, 50, 0, 12);
        across(x, 59, 0, 12);
        across(x, 60, 3, 0);
        across(x, 69, 3, 0);
        across(x, 70, 0, 17);
        across(x, 79, 0, 17);
        across(x, 80, 0, 0);
        across(x, 100000, 0, 0);
        for (int part = 0; part < 4; part++) {
            is("17: metre -1", x.mass(-1, part), BAD);
            is("17: metre 100,001", x.mass(100001, part), BAD);
            is("17: metre beyond int", x.mass(BIG, part), BAD);
            is("17: metre far", x.mass(Long.MIN_VALUE, part), BAD);
        }
        is("17: part 4", x.mass(0, 4), BAD);
        for (int outside : OUTSIDE) {
            is("17: part " + outside, x.mass(0, outside), BAD);
        }
        is("17: cuts after a run of 1", dearth().mass(0, 0), 5);
        is("17: fills after a run of 1", dearth().mass(0, 1), 6);
        is("17: moves after a run of 1", dearth().mass(0, 2), BAD);
    }

    private static void across(HaulFlows x, long metre, long onwards, long back) {
        is("17: onwards at " + metre, x.mass(metre, 2), onwards);
        is("17: back at " + metre, x.mass(metre, 3), back);
    }

    private static void check() {
        is("18: a plan", road().check(), 0);
        is("18: no plan", dearth().check(), BAD);
        HaulFlows x = new HaulFlows();
        is("18: none yet", x.check(), BAD);
        x.cut(1000000, 0, 0, 0);
        x.cut(3, 0, 0, 0);
        x.borrow(0, 0);
        x.swell(0, 1000, 1);
        x.fill(1000000, 0, 1);
        x.fill(1000000, 0, 2);
        x.most(0, 2000000);
        runs(x, 0);
        is("18: full bounds", x.check(), 0);
        x.most(1, 0);
        is("18: gone", x.check(), BAD);
        runs(x, 0);
        is("18: an empty week with a most of 0", x.check(), 0);
    }

    private static void level() {
        HaulFlows x = road();
        is("19: all is used", x.level(0, 0), 0);
        is("19: what it gives", x.level(0, 1), 100);
        is("19: some is left", x.level(1, 0), 10);
        is("19: what it gives", x.level(1, 1), 50);
        is("19: cut 2 (a pit)", x.level(2, 0), BAD);
        is("19: part 2", x.level(0, 2), BAD);
        for (int outside : OUTSIDE) {
            is("19: cut " + outside, x.level(outside, 0), BAD);
            is("19: part " + outside, x.level(0, outside), BAD);
        }
        x.swell(1, 3, 2);
        is("19: the plan is gone", x.level(1, 1), BAD);
        runs(x, 0);
        is("19: swollen", x.level(1, 1), 75);
        is("19: swollen, left", x.level(1, 0), 35);
        is("19: no plan", dearth().level(0, 0), BAD);
        is("19: no plan, part 1", dearth().level(0, 1), BAD);
    }

    /** Each call that changes a road, in a form that is not refused, though it may change nothing. */
    private static boolean change(HaulFlows x, int which) {
        switch (which) {
            case 0:
                return x.cut(1, 0, 0, 0) >= 0;
            case 1:
                return x.fill(1, 0, 0) >= 0;
            case 2:
                return x.swell(3, 1, 1);
            case 3:
                return x.fits(3, 0, true);
            case 4:
                return x.way(0, 0, 0) >= 0;
            case 5:
                return x.bar(0, 9, 9) && x.run(96) >= 0 && x.bar(0, 9, 9);
            case 6:
                return x.borrow(0, 0) >= 0;
            default:
                return x.most(9, 10000000) && x.run(96) >= 0 && x.most(9, 10000000);
        }
    }

    private static boolean refused(HaulFlows x, int which) {
        switch (which) {
            case 0:
                return x.cut(0, 0, 0, 0) == BAD;
            case 1:
                return x.fill(1, 12, 0) == BAD;
            case 2:
                return !x.swell(0, 0, 5);
            case 3:
                return !x.fits(0, 7, false);
            case 4:
                return x.way(0, -1, 0) == BAD;
            case 5:
                return !x.bar(0, 2, 1);
            case 6:
                return x.borrow(0, -1) == BAD;
            default:
                return !x.most(0, -1);
        }
    }

    private static void changesDropThePlan() {
        for (int which = 0; which < 8; which++) {
            HaulFlows x = road();
            is("2: call " + which, change(x, which), true);
            String name = "2: after call " + which + " ";
            is(name + "cost", x.cost(0), BAD);
            is(name + "moved", x.moved(0, 0, 0), BAD);
            is(name + "dual", x.dual(0, 0, 0), BAD);
            is(name + "closure", x.closure(0, 0), BAD);
            is(name + "list", x.list(3, 0, 0), BAD);
            is(name + "mass 2", x.mass(0, 2), BAD);
            is(name + "check", x.check(), BAD);
            is(name + "level", x.level(0, 0), BAD);
            is(name + "clash", x.clash(0), BAD);
            runs(x, 0);
            is(name + "and a run check", x.check(), 0);
        }
    }

    private static void refusalsKeepThePlan() {
        for (int which = 0; which < 8; which++) {
            HaulFlows x = road();
            is("2: refused call " + which, refused(x, which), true);
            is("2: the plan stays after refused call " + which, x.cost(0), 2820);
            is("2: mass after refused call " + which, x.mass(100000, 0), 150);
            runs(x, 0);
            is("2: the same road after refused call " + which, x.cost(0), 2820);
        }
        HaulFlows full = new HaulFlows();
        for (int i = 0; i < 8; i++) {
            full.cut(1, 0, 0, 0);
            full.fill(1, 0, 0);
            full.borrow(0, 1);
            full.way(0, 1, 1);
        }
        runs(full, 0);
        is("2: there are 8", full.cut(1, 0, 0, 0), BAD);
        is("3: there are 8", full.fill(1, 0, 0), BAD);
        is("6: there are 6", full.way(0, 0, 0), BAD);
        is("8: there are 4", full.borrow(0, 0), BAD);
        is("2: the plan stays", full.cost(1), 8);
    }

    private static void changesDropTheClash() {
        for (int which = 0; which < 8; which++) {
            HaulFlows x = dearth();
            is("14: before call " + which, x.clash(0), 0);
            is("14: call " + which, change(x, which), true);
            is("14: after call " + which, x.clash(0), BAD);
        }
    }

    private static void refusalsKeepTheClash() {
        for (int which = 0; which < 8; which++) {
            HaulFlows x = dearth();
            is("14: refused call " + which, refused(x, which), true);
            is("14: after refused call " + which, x.clash(0), 0);
        }
    }

    private static void largest() {
        HaulFlows x = new HaulFlows();
        for (int i = 0; i < 8; i++) {
            x.cut(1000000, 0, 0, 0);
            x.fill(1000000, 11, 100000);
        }
        x.swell(0, 1000, 1);
        runs(x, 0);
        is("12: the greatest way", x.cost(0), 800000000000L);
        is("17: the greatest mass", x.mass(0, 0), 8000000000L);
        is("17: all of it crosses", x.mass(50000, 2), 8000000);
        is("19: all fills by the first cut", x.level(0, 0), 1000000000L - 8000000);
        x.swell(0, 1, 1000);
        x.borrow(0, 100000);
        runs(x, 0);
        is("12: the greatest cost", x.cost(0), 8000L * 100000 + (8000000L - 8000) * 200000);
        is("12: from pits", x.cost(2), 8000000 - 8000);
        x.most(11, 7999999);
        runs(x, 1);
        is("14: all of the week", x.clash(7), 7);
        x.most(11, 8000000);
        runs(x, 0);
        is("13: no more", x.dual(1, 0, 1), 0);
        is("13: one less", x.dual(0, 0, 0), 100000);
    }
}
