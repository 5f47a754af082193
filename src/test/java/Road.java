import java.util.function.Supplier;

/** A road that a test makes anew for each question, and how much there is of everything on it. */
record Road(String name, int cuts, int pits, int fills, int ways, Supplier<HaulFlows> maker) {
    /** Enough steps for every road. */
    static final int STEPS = 96;

    /** Nothing there yet. */
    static final Road NEW = new Road("new", 0, 0, 0, 0, HaulFlows::new);
    /** A best plan stands. */
    static final Road PLANNED = new Road("planned", 3, 1, 2, 2, Road::planned);
    /** The last run was 1. */
    static final Road CLASHED = new Road("clashed", 2, 0, 3, 1, Road::clashed);
    /** There was a plan, but something was changed. */
    static final Road CHANGED = new Road("changed", 3, 1, 2, 2, Road::changed);
    /** The last run was 1, but something was changed. */
    static final Road MENDED = new Road("mended", 2, 0, 3, 1, Road::mended);
    /** As much as there can be, with a plan. */
    static final Road FULL = new Road("full", 8, 4, 8, 6, Road::full);

    static final Road[] ALL = {NEW, PLANNED, CLASHED, CHANGED, MENDED, FULL};

    HaulFlows make() {
        return maker.get();
    }

    int sources() {
        return cuts + pits;
    }

    private static HaulFlows planned() {
        HaulFlows x = new HaulFlows();
        x.cut(100, 0, 0, 0);
        x.cut(50, 1, 2, 100);
        x.cut(9, 2, 0, 500);
        x.borrow(200, 5);
        x.fill(60, 3, 50);
        x.fill(80, 1, 10);
        x.way(0, 50, 1);
        x.way(100, 70, 2);
        x.bar(1, 2, 2);
        x.swell(2, 1, 10);
        x.fits(2, 1, false);
        x.most(3, 75);
        x.run(STEPS);
        return x;
    }

    private static HaulFlows changed() {
        HaulFlows x = planned();
        x.most(3, 75);
        return x;
    }

    private static HaulFlows clashed() {
        HaulFlows x = new HaulFlows();
        x.cut(5, 0, 0, 10);
        x.cut(7, 1, 0, 20);
        x.way(0, 1, 1);
        x.fill(4, 0, 0);
        x.fill(7, 1, 0);
        x.fill(2, 0, 30);
        x.fits(0, 1, false);
        x.fits(1, 0, false);
        x.fits(1, 2, false);
        x.run(STEPS);
        return x;
    }

    private static HaulFlows mended() {
        HaulFlows x = clashed();
        x.swell(0, 6, 5);
        return x;
    }

    private static HaulFlows full() {
        HaulFlows x = new HaulFlows();
        for (int i = 0; i < 8; i++) {
            x.cut(10 + i, i % 4, i, 1000 * i);
            x.fill(11, 11 - i % 4, 1000 * i + 3);
        }
        for (int i = 0; i < 4; i++) {
            x.borrow(2000 * i, 100 + i);
        }
        for (int i = 0; i < 6; i++) {
            x.way(1000 * i, 1000 * i + 1003, 50);
        }
        x.run(STEPS);
        return x;
    }

    /** Everything that can be asked of an object made by this road, in one text. */
    String answers(HaulFlows x) {
        StringBuilder all = new StringBuilder();
        plans(x, all);
        for (int k = -1; k <= fills; k++) {
            all.append(" clash ").append(x.clash(k));
        }
        for (int part = 0; part < 4; part++) {
            all.append(" mass ").append(x.mass(25, part)).append(' ').append(x.mass(100000, part));
        }
        return all.toString();
    }

    private void plans(HaulFlows x, StringBuilder all) {
        for (int s = 0; s < sources(); s++) {
            all.append(" moved");
            for (int f = 0; f < fills; f++) {
                all.append(' ').append(x.moved(s, f, 0));
            }
        }
        for (int part = 0; part < 3; part++) {
            all.append(" cost ").append(x.cost(part));
        }
        for (int k = 0; k < cuts; k++) {
            all.append(" dual 0 ").append(x.dual(0, k, 0)).append(" level ").append(x.level(k, 0));
        }
        for (int k = 0; k < fills; k++) {
            all.append(" dual 1 ").append(x.dual(1, k, 0));
        }
        for (int k = 0; k < ways; k++) {
            all.append(" closure ").append(x.closure(k, 0));
        }
        for (int week = 0; week < 12; week++) {
            all.append(" list ").append(x.list(week, 0, 2));
        }
        all.append(" check ").append(x.check());
    }
}
