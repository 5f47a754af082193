/**
 * The sentences of 'What it is' and 'Terms' that name an edge, and those of the promises that name
 * one by an amount rather than by an argument. Each test bears the sentence that it would see broken.
 */
public final class TermsTest {
    private static final Due DUE = new Due("TermsTest");
    private static final long BAD = -1;

    public static void main(String[] args) {
        fiveHundredAndTwelveCalls();
        nothingThere();
        weekFromWhichOn();
        kindsAreOneToOneAtFirst();
        cutOff();
        swellIsOfItsKindAlone();
        pitsGiveWhatIsWanted();
        fillsWantInOneWeek();
        cutsThenPits();
        kindsFitAtFirst();
        pitsServeAll();
        asManyCentsAsApart();
        byOneWay();
        ifThatIsLess();
        barredInTheFillsWeek();
        bothWeeksToo();
        besideWhatWasBarred();
        noMoreThanItGives();
        noMoreThanItsMost();
        withoutBoundAtFirst();
        leastCostFirst();
        fillByFillSourceBySource();
        notServedWholeInSomeWay();
        asMuchAsCanBe();
        withinAllOtherBounds();
        stepsAreSourcesTimesFills();
        costOfMoves();
        oneUnitLess();
        oneUnitMore();
        theCutGivesNothing();
        theLastRunWasNotOne();
        withoutAWay();
        movesOfNothing();
        thatMetreToo();
        leftOfACut();
        beyondInt();
        DUE.end();
    }

    private static void is(String call, long got, long want) {
        DUE.is(call, got, want);
    }

    private static void is(String call, boolean got, boolean want) {
        DUE.is(call, got, want);
    }

    private static void runs(String name, HaulFlows x, int want) {
        is(name + ": run", Due.run(x, 96), want);
    }

    /** Amounts as digits: a row for each source, a digit for each fill. */
    private static void amounts(String name, HaulFlows x, String rows) {
        String[] sources = rows.split(" ");
        for (int s = 0; s < sources.length; s++) {
            for (int f = 0; f < sources[s].length(); f++) {
                is(name + ": " + s + " to " + f, x.moved(s, f, 0), sources[s].charAt(f) - '0');
            }
        }
    }

    private static void clashes(String name, HaulFlows x, int... fills) {
        for (int k = 0; k < fills.length; k++) {
            is(name + ": clash " + k, x.clash(k), fills[k]);
        }
        is(name + ": no more clash", x.clash(fills.length), BAD);
    }

    /** "An object is used for at most 512 calls": the 512th is as good as the first. */
    private static void fiveHundredAndTwelveCalls() {
        HaulFlows taken = new HaulFlows();
        taken.borrow(3, 4);
        taken.fill(5, 0, 0);
        for (int call = 2; call < 510; call++) {
            is("512: most", taken.most(call % 12, 5 + call), true);
        }
        is("512: call 511", Due.run(taken, 1), 0);
        is("512: call 512", taken.cost(0), 35);
        HaulFlows refused = new HaulFlows();
        for (int call = 0; call < 509; call++) {
            is("512: refused", refused.cut(1, 4, 0, 0), BAD);
        }
        is("512: call 510", refused.cut(8, 0, 0, 0), 0);
        is("512: call 511", Due.run(refused, -1), Due.ILLEGAL_STATE);
        is("512: call 512", refused.mass(0, 0), 8);
        HaulFlows run = new HaulFlows();
        run.cut(9, 0, 0, 7);
        run.way(7, 0, 1);
        run.fill(9, 0, 0);
        for (int call = 3; call + 3 <= 512; call += 3) {
            is("512: run", Due.run(run, 1), 0);
            is("512: closure", run.closure(0, 0), 54);
            is("512: dual", run.dual(0, 0, 1), 0);
        }
    }

    /** "No cuts, pits, fills, ways; no plan." The plan of nothing is a plan too. */
    private static void nothingThere() {
        HaulFlows x = new HaulFlows();
        is("1: no fills", x.fits(0, 0, true), false);
        is("1: no ways", x.bar(0, 0, 0), false);
        is("1: nothing is given", x.mass(100000, 0), 0);
        is("1: nothing is wanted", x.mass(100000, 1), 0);
        is("1: no plan", x.cost(0), BAD);
        is("1: no plan to check", x.check(), BAD);
        is("1: no clash", x.clash(0), BAD);
        is("1: sources times fills are 0", Due.run(x, 0), 0);
        for (int part = 0; part < 3; part++) {
            is("1: cost of nothing", x.cost(part), 0);
        }
        for (int part = 0; part < 4; part++) {
            is("1: mass of nothing", x.mass(100000, part), 0);
        }
        is("1: check of nothing", x.check(), 0);
        is("1: no source, no fill", x.moved(0, 0, 0), BAD);
        is("1: no cut to give less", x.dual(0, 0, 0), BAD);
        is("1: no fill to want more", x.dual(1, 0, 0), BAD);
        is("1: no way to close", x.closure(0, 0), BAD);
        is("1: no cut to level", x.level(0, 1), BAD);
        is("1: no fill that clashes", x.clash(0), BAD);
        for (int week = 0; week < 12; week++) {
            is("1: no move in week " + week, x.list(week, 0, 0), BAD);
        }
        is("1: the first cut", x.cut(1, 0, 0, 0), 0);
        is("1: the first pit", x.borrow(0, 0), 0);
        is("1: the first way", x.way(0, 0, 0), 0);
        is("1: sources without a fill", Due.run(x, 0), 0);
        is("1: nothing is moved", x.cost(1), 0);
        is("1: all is left", x.level(0, 0), 1);
        is("1: one less of that", x.dual(0, 0, 0), 0);
        is("1: there is a plan then", x.dual(0, 0, 1), 1);
        is("1: the way closed", x.closure(0, 1), 1);
        is("1: the first fill", x.fill(1, 0, 0), 0);
    }

    /** "a week 0 .. 11 from which on they can be used"; "its week is not behind the fill's" */
    private static void weekFromWhichOn() {
        for (int from = 0; from < 12; from++) {
            for (int in = 0; in < 12; in++) {
                HaulFlows x = new HaulFlows();
                x.cut(1, 0, from, 0);
                x.fill(1, in, 0);
                is("T: from week " + from + " in week " + in, Due.run(x, 1), from <= in ? 0 : 1);
                is("T: moved from week " + from + " in week " + in, x.list(in, 0, 2), from <= in ? 1 : BAD);
            }
        }
    }

    /** "A kind SWELLS by a fraction (1 / 1 at first)" */
    private static void kindsAreOneToOneAtFirst() {
        HaulFlows x = new HaulFlows();
        for (int kind = 0; kind < 4; kind++) {
            x.cut(1000000 - kind, kind, 0, kind);
        }
        is("T: 1 / 1 at first", x.mass(0, 0), 1000000);
        is("T: kinds 0 and 1", x.mass(1, 0), 1999999);
        is("T: kinds 0 to 2", x.mass(2, 0), 2999997);
        is("T: all kinds", x.mass(3, 0), 3999994);
    }

    /** "a cut GIVES its volume times that, cut off" */
    private static void cutOff() {
        long[][] rows = {
            {1, 1, 1, 1}, {1, 1, 2, 0}, {1, 999, 1000, 0}, {1, 1000, 999, 1}, {1, 1000, 1000, 1}, {1, 1000, 1, 1000},
            {999, 1, 1000, 0}, {1000, 1, 1000, 1}, {1001, 1, 1000, 1}, {1999, 1, 1000, 1}, {2000, 1, 1000, 2},
            {5, 3, 2, 7}, {5, 2, 3, 3}, {7, 5, 2, 17}, {1000000, 1000, 1, 1000000000}, {1000000, 1, 1000, 1000},
            {999999, 1, 1000, 999}, {1000000, 999, 1000, 999000}, {1000000, 1000, 999, 1001001},
            {999999, 999, 1000, 998999}, {1000000, 1000, 3, 333333333}, {1000000, 2, 3, 666666},
        };
        for (long[] row : rows) {
            String name = "T: " + row[0] + " * " + row[1] + " / " + row[2];
            HaulFlows x = new HaulFlows();
            x.cut(row[0], 2, 0, 0);
            is(name, x.swell(2, row[1], row[2]), true);
            is(name, x.mass(0, 0), row[3]);
            runs(name, x, 0);
            is(name + ": level", x.level(0, 1), row[3]);
            is(name + ": left", x.level(0, 0), row[3]);
            if (row[3] >= 1 && row[3] <= 999999) {
                x.fill(row[3], 0, 0);
                runs(name + " is enough", x, 0);
                is(name + ": nothing left", x.level(0, 0), 0);
                x.fill(1, 0, 0);
                runs(name + " is not one more", x, 1);
            }
        }
    }

    /** "A kind swells (or shrinks) by above / below": that kind, whenever its cuts were made. */
    private static void swellIsOfItsKindAlone() {
        for (int kind = 0; kind < 4; kind++) {
            HaulFlows x = new HaulFlows();
            x.cut(10, kind, 0, 0);
            x.swell(kind, 3, 2);
            x.cut(10, kind, 0, 0);
            is("4: cuts before and behind", x.mass(0, 0), 30);
            for (int other = 0; other < 4; other++) {
                x.cut(100, other, 0, 1);
            }
            is("4: not other kinds", x.mass(1, 0), 30 + 150 + 300);
            x.swell(kind, 1, 2);
            is("4: not upon what was", x.mass(1, 0), 10 + 50 + 300);
        }
    }

    /** "PITS give what is wanted, in all weeks, for cents more a unit." */
    private static void pitsGiveWhatIsWanted() {
        HaulFlows x = new HaulFlows();
        x.borrow(0, 100000);
        for (int f = 0; f < 8; f++) {
            x.fill(1000000, f % 2 == 0 ? 0 : 11, 0);
        }
        runs("8: all that can be wanted", x, 0);
        is("8: all from the pit", x.cost(2), 8000000);
        is("8: cents more a unit", x.cost(0), 800000000000L);
        for (int f = 0; f < 8; f++) {
            is("8: and one more", x.dual(1, f, 0), 100000);
        }
        for (int week = 0; week < 12; week++) {
            HaulFlows y = new HaulFlows();
            y.borrow(7, 0);
            y.fill(3, week, 0);
            runs("8: in week " + week, y, 0);
            is("8: for no cents more", y.cost(0), 21);
        }
    }

    /** "FILLS lie at a metre, want a volume, in one week": that week's MOST binds it, no other. */
    private static void fillsWantInOneWeek() {
        for (int week = 0; week < 12; week++) {
            HaulFlows x = new HaulFlows();
            x.borrow(0, 0);
            x.fill(1, week, 0);
            for (int other = 0; other < 12; other++) {
                x.most(other, other == week ? 1 : 0);
            }
            runs("T: other weeks do not bind week " + week, x, 0);
            is("T: it is moved in week " + week, x.list(week, 0, 1), 0);
            x.most(week, 0);
            runs("T: its own does", x, 1);
        }
    }

    /** "SOURCES are the cuts, then the pits." A later cut comes before all pits. */
    private static void cutsThenPits() {
        HaulFlows x = new HaulFlows();
        is("T: pit 0", x.borrow(0, 0), 0);
        x.fill(5, 3, 0);
        x.fill(4, 3, 9);
        runs("T: the pit is source 0", x, 0);
        amounts("T: the pit alone", x, "54");
        is("T: no source 1", x.moved(1, 0, 0), BAD);
        is("T: cut 0", x.cut(9, 0, 0, 9), 0);
        is("T: pit 1", x.borrow(0, 1), 1);
        runs("T: the cut is source 0", x, 0);
        amounts("T: the cut, then the pits", x, "04 50 00");
        is("T: the list too", x.list(3, 0, 0), 0);
        is("T: the list too, then the pit", x.list(3, 1, 0), 1);
        is("T: no source 3", x.moved(3, 0, 0), BAD);
        is("T: from pits", x.cost(2), 5);
    }

    /** "if its kind fits it (at first all do)" */
    private static void kindsFitAtFirst() {
        for (int kind = 0; kind < 4; kind++) {
            HaulFlows x = new HaulFlows();
            x.cut(8, kind, 0, 0);
            for (int f = 0; f < 8; f++) {
                x.fill(1, 0, 0);
                runs("5: kind " + kind + " fits fill " + f, x, 0);
                is("5: moved", x.moved(0, f, 0), 1);
                for (int other = 0; other < 4; other++) {
                    x.fits(other, f, other == kind);
                }
            }
            runs("5: still", x, 0);
            for (int f = 0; f < 8; f++) {
                x.fits(kind, f, false);
                runs("5: kind " + kind + " does not fit fill " + f, x, 1);
                clashes("5: that one alone", x, f);
                x.fits(kind, f, true);
            }
            runs("5: all fit again", x, 0);
        }
    }

    /** "a pit serves all" */
    private static void pitsServeAll() {
        HaulFlows x = new HaulFlows();
        x.borrow(0, 0);
        x.cut(8, 0, 11, 0);
        for (int f = 0; f < 8; f++) {
            x.fill(1, f, 0);
            for (int kind = 0; kind < 4; kind++) {
                x.fits(kind, f, false);
            }
        }
        runs("5: no kind fits", x, 0);
        is("5: all by the pit", x.cost(2), 8);
    }

    private static long price(long from, long to, long... way) {
        HaulFlows x = new HaulFlows();
        x.cut(1, 0, 0, from);
        x.fill(1, 0, to);
        for (int i = 0; i + 2 < way.length; i += 3) {
            x.way(way[i], way[i + 1], way[i + 2]);
        }
        x.run(1);
        return x.cost(0);
    }

    /** "A unit from metre a to metre b costs as many cents as they are apart" */
    private static void asManyCentsAsApart() {
        is("T: at the same metre", price(5, 5), 0);
        is("T: one apart", price(5, 6), 1);
        is("T: one back", price(6, 5), 1);
        is("T: the whole road", price(0, 100000), 100000);
        is("T: the whole road back", price(100000, 0), 100000);
        is("T: both at the beginning", price(0, 0), 0);
        is("T: both at the end", price(100000, 100000), 0);
    }

    /** "by one WAY ..: from a to one end of it, its cents, and from its other end to b" */
    private static void byOneWay() {
        is("T: from end to end for nothing", price(0, 100000, 0, 100000, 0), 0);
        is("T: and back", price(100000, 0, 0, 100000, 0), 0);
        is("T: a way that is told from its far end", price(0, 100000, 100000, 0, 0), 0);
        is("T: past both ends", price(10, 90, 20, 80, 1), 21);
        is("T: back past both ends", price(90, 10, 20, 80, 1), 21);
        is("T: from inside", price(30, 70, 20, 80, 1), 21);
        is("T: one way, not two of them", price(0, 90, 0, 30, 0, 30, 90, 0), 30);
        is("T: not the same one twice", price(0, 100, 0, 40, 1), 61);
        is("T: the best of six", price(0, 90, 0, 90, 9, 0, 90, 8, 0, 90, 7, 0, 90, 6, 0, 90, 5, 0, 90, 4), 4);
        is("T: the first of six", price(0, 90, 0, 90, 4, 0, 90, 5, 0, 90, 6, 0, 90, 7, 0, 90, 8, 0, 90, 9), 4);
        HaulFlows pit = new HaulFlows();
        pit.borrow(0, 100000);
        pit.fill(1, 0, 100000);
        pit.way(100000, 0, 0);
        runs("T: a pit by a way", pit, 0);
        is("T: its cents remain", pit.cost(0), 100000);
    }

    /** "if that is less" */
    private static void ifThatIsLess() {
        is("T: less by one", price(0, 50, 0, 50, 49), 49);
        is("T: as much", price(0, 50, 0, 50, 50), 50);
        is("T: more by one", price(0, 50, 0, 50, 51), 50);
        is("T: the dearest way", price(0, 100000, 0, 100000, 100000), 100000);
        is("T: one less than the road", price(0, 100000, 0, 100000, 99999), 99999);
        is("T: a way that leads nowhere", price(7, 7, 7, 7, 0), 0);
        is("T: a detour", price(7, 7, 0, 100000, 0), 0);
    }

    /** "that is not barred in the fill's week": not the cut's, and no other one's. */
    private static void barredInTheFillsWeek() {
        for (int week = 0; week < 12; week++) {
            for (int barred = 0; barred < 12; barred++) {
                HaulFlows x = new HaulFlows();
                x.cut(1, 0, 0, 0);
                x.borrow(100, 0);
                x.fill(1, week, 50);
                x.way(0, 50, 3);
                x.way(0, 50, 8);
                x.bar(0, barred, barred);
                runs("7: week " + barred + " barred, fill in " + week, x, 0);
                is("7: week " + barred + " barred, fill in " + week, x.cost(0), week == barred ? 8 : 3);
            }
        }
    }

    private static String barredWeeks(HaulFlows x) {
        StringBuilder weeks = new StringBuilder();
        for (int f = 0; f < 4; f++) {
            weeks.append(x.moved(0, f, 1) == 1 ? '.' : 'x');
        }
        return weeks.toString();
    }

    /** A cut, a way, and fills in four weeks of a row; then bars. */
    private static HaulFlows fourWeeks(int first) {
        HaulFlows x = new HaulFlows();
        x.cut(4, 0, 0, 0);
        x.way(0, 9, 1);
        for (int f = 0; f < 4; f++) {
            x.fill(1, first + f, 9);
        }
        return x;
    }

    private static void weeks(String name, HaulFlows x, String want) {
        runs(name, x, 0);
        String got = barredWeeks(x);
        is(name + ": " + got + " instead of " + want, got.equals(want), true);
    }

    /** "A way is barred from one week to another one (both of them too ..)"; "the first is behind the last" */
    private static void bothWeeksToo() {
        for (int first = 0; first + 3 < 12; first++) {
            HaulFlows x = fourWeeks(first);
            weeks("7: no bar", x, "....");
            is("7: the first is behind the last", x.bar(0, first + 2, first + 1), false);
            weeks("7: refused", x, "....");
            is("7: one week", x.bar(0, first + 1, first + 1), true);
            weeks("7: one week", x, ".x..");
            HaulFlows y = fourWeeks(first);
            is("7: two weeks", y.bar(0, first + 1, first + 2), true);
            weeks("7: both of them", y, ".xx.");
            HaulFlows z = fourWeeks(first);
            is("7: four weeks", z.bar(0, first, first + 3), true);
            weeks("7: those between too", z, "xxxx");
        }
        HaulFlows first = fourWeeks(0);
        is("7: the first week", first.bar(0, 0, 0), true);
        weeks("7: the first week", first, "x...");
        HaulFlows last = fourWeeks(8);
        is("7: the last week", last.bar(0, 11, 11), true);
        weeks("7: the last week", last, "...x");
        HaulFlows all = fourWeeks(8);
        is("7: all weeks", all.bar(0, 0, 11), true);
        weeks("7: all weeks", all, "xxxx");
    }

    /** "beside what was barred" */
    private static void besideWhatWasBarred() {
        HaulFlows x = fourWeeks(4);
        x.bar(0, 4, 4);
        x.bar(0, 7, 7);
        weeks("7: two bars", x, "x..x");
        x.bar(0, 4, 4);
        weeks("7: the same bar again", x, "x..x");
        x.bar(0, 0, 5);
        weeks("7: a bar over a bar", x, "xx.x");
        x.bar(0, 5, 5);
        weeks("7: a bar within a bar", x, "xx.x");
        is("7: way 1", x.way(0, 9, 1), 1);
        weeks("7: a new way is not barred", x, "....");
        x.bar(1, 6, 6);
        weeks("7: where one is open", x, "....");
        x.bar(1, 7, 7);
        weeks("7: where both are barred", x, "...x");
    }

    /** "from a cut no more than it gives, to a fill what it wants" */
    private static void noMoreThanItGives() {
        HaulFlows x = new HaulFlows();
        x.cut(5, 0, 0, 0);
        x.cut(5, 0, 0, 9);
        x.fill(6, 0, 0);
        x.fill(4, 0, 0);
        runs("T: all that there is", x, 0);
        amounts("T: all that there is", x, "50 14");
        is("T: nothing left", x.level(0, 0) + x.level(1, 0), 0);
        is("T: moved in all", x.cost(1), 10);
        x.fill(1, 0, 0);
        runs("T: one more is too much", x, 1);
    }

    /** "to all fills of a week no more than its MOST" */
    private static void noMoreThanItsMost() {
        HaulFlows x = new HaulFlows();
        x.borrow(0, 0);
        x.fill(4, 5, 0);
        x.fill(3, 5, 0);
        x.fill(9, 6, 0);
        x.most(5, 6);
        runs("9: one less than is wanted", x, 1);
        clashes("9: the fills of that week", x, 0, 1);
        x.most(5, 7);
        runs("9: as much as is wanted", x, 0);
        is("9: all is moved", x.cost(1), 16);
        x.most(5, 0);
        runs("9: nothing", x, 1);
        clashes("9: the fills of that week again", x, 0, 1);
        x.most(5, 10000000);
        runs("9: the last MOST counts", x, 0);
        is("9: it leaves room for one more", x.dual(1, 0, 1), 1);
    }

    /** "(without bound at first)" */
    private static void withoutBoundAtFirst() {
        for (int week = 0; week < 12; week++) {
            HaulFlows x = new HaulFlows();
            x.borrow(0, 0);
            for (int f = 0; f < 8; f++) {
                x.fill(1000000, week, 0);
            }
            is("9: -1 is refused", x.most(week, -1), false);
            is("9: 10,000,001 is refused", x.most(week, 10000001), false);
            runs("9: week " + week + " without bound", x, 0);
            is("9: and one more", x.dual(1, 7, 1), 1);
            x.most(week, 8000000);
            runs("9: week " + week + " just so", x, 0);
            is("9: not one more", x.dual(1, 7, 1), 0);
            x.most(week, 7999999);
            runs("9: week " + week + " too little", x, 1);
            clashes("9: all of them", x, 0, 1, 2, 3, 4, 5, 6, 7);
        }
    }

    /** "The BEST plan has the least cost" */
    private static void leastCostFirst() {
        HaulFlows x = new HaulFlows();
        x.cut(3, 0, 0, 1);
        x.borrow(0, 0);
        x.fill(3, 0, 0);
        runs("10: cost before order", x, 0);
        amounts("10: cost before order", x, "0 3");
        x.way(1, 0, 0);
        runs("10: as dear", x, 0);
        amounts("10: then source 0", x, "3 0");
        HaulFlows y = new HaulFlows();
        y.cut(2, 0, 0, 0);
        y.cut(2, 0, 0, 10);
        y.fill(2, 0, 9);
        y.fill(2, 0, 11);
        y.fits(0, 1, true);
        y.way(0, 11, 8);
        runs("10: two pairs", y, 0);
        is("10: the least of both", y.cost(0), 2 * 1 + 2 * 8);
        amounts("10: the second pair", y, "02 20");
    }

    /** "of those the most from source 0 to fill 0; .. and so on, fill by fill, source by source" */
    private static void fillByFillSourceBySource() {
        HaulFlows x = new HaulFlows();
        x.cut(4, 0, 0, 0);
        x.cut(4, 0, 0, 0);
        x.borrow(0, 0);
        x.fill(3, 0, 0);
        x.fill(3, 0, 0);
        x.fill(3, 0, 0);
        runs("10: all cost nothing", x, 0);
        amounts("10: row by row", x, "310 022 001");
        x.fits(0, 0, false);
        runs("10: fill 0 by the pit alone", x, 0);
        amounts("10: fill 0 by the pit alone", x, "031 002 300");
        HaulFlows row = new HaulFlows();
        row.cut(1, 0, 0, 0);
        row.cut(1, 1, 0, 0);
        row.fill(1, 0, 0);
        row.fill(1, 0, 0);
        row.fits(0, 0, false);
        runs("10: source 0 to fill 1", row, 0);
        amounts("10: source 0 to fill 1", row, "01 10");
        HaulFlows order = new HaulFlows();
        order.cut(1, 0, 0, 0);
        order.cut(1, 1, 0, 0);
        order.cut(1, 2, 0, 0);
        order.fill(1, 0, 0);
        order.fill(1, 0, 0);
        order.fits(0, 0, false);
        order.borrow(0, 0);
        runs("10: the row comes before the column", order, 0);
        amounts("10: source 0 to fill 1 before source 1 to fill 0", order, "01 10 00 00");
    }

    /** "those that are not served whole in some way to bring as much as can be" */
    private static void notServedWholeInSomeWay() {
        HaulFlows x = new HaulFlows();
        x.fill(1, 0, 0);
        runs("14: no source at all", x, 1);
        clashes("14: no source at all", x, 0);
        x.cut(9, 0, 1, 0);
        runs("14: too late", x, 1);
        clashes("14: too late", x, 0);
        x.fill(9, 1, 0);
        runs("14: the other is served whole", x, 1);
        clashes("14: the other is served whole", x, 0);
        x.fill(1, 1, 0);
        runs("14: now two share too little", x, 1);
        clashes("14: one or the other", x, 0, 1, 2);
        HaulFlows y = new HaulFlows();
        y.cut(1, 0, 0, 0);
        y.cut(1, 1, 0, 0);
        y.fill(1, 0, 0);
        y.fill(1, 0, 0);
        y.fill(1, 0, 0);
        y.fits(1, 0, false);
        y.fits(1, 1, false);
        y.fits(0, 2, false);
        runs("14: one kind is short", y, 1);
        clashes("14: the fills of that kind", y, 0, 1);
        y.fits(1, 1, true);
        runs("14: a chain", y, 1);
        clashes("14: along the chain", y, 0, 1, 2);
    }

    /** "as much as can be to all fills together": a way that brings less does not count. */
    private static void asMuchAsCanBe() {
        HaulFlows x = new HaulFlows();
        x.cut(5, 0, 0, 0);
        x.cut(5, 1, 0, 0);
        x.fill(5, 0, 0);
        x.fill(7, 0, 0);
        x.fits(0, 0, true);
        x.fits(1, 0, false);
        x.fits(0, 1, false);
        runs("14: each has its own", x, 1);
        clashes("14: the first could only be short for nothing", x, 1);
        x.fits(0, 1, true);
        runs("14: one may take from the other", x, 1);
        clashes("14: both", x, 0, 1);
        x.swell(0, 7, 5);
        runs("14: just enough", x, 0);
        is("14: none", x.clash(0), BAD);
    }

    /** "within all other bounds": those of the cuts and of the weeks */
    private static void withinAllOtherBounds() {
        HaulFlows x = new HaulFlows();
        x.borrow(0, 0);
        x.fill(5, 0, 0);
        x.fill(5, 1, 0);
        x.most(1, 4);
        runs("14: a week", x, 1);
        clashes("14: its fill", x, 1);
        x.most(0, 4);
        runs("14: two weeks", x, 1);
        clashes("14: their fills", x, 0, 1);
        HaulFlows y = new HaulFlows();
        y.cut(9, 0, 0, 0);
        y.fill(5, 0, 0);
        y.fill(5, 1, 0);
        y.most(1, 4);
        runs("14: the week takes all that is short", y, 1);
        clashes("14: the week alone", y, 1);
        y.most(1, 5);
        runs("14: the cut is short", y, 1);
        clashes("14: both", y, 0, 1);
        y.fill(1, 1, 0);
        y.most(1, 4);
        runs("14: the week is shorter", y, 1);
        clashes("14: both fills of the week", y, 1, 2);
    }

    /** "sources times fills are more than steps": pits are sources too. */
    private static void stepsAreSourcesTimesFills() {
        for (int cuts = 0; cuts <= 8; cuts += 4) {
            for (int pits = 0; pits <= 4; pits += 2) {
                for (int fills = 0; fills <= 8; fills += 4) {
                    HaulFlows x = new HaulFlows();
                    for (int i = 0; i < 8; i++) {
                        if (i < cuts) {
                            x.cut(1, 0, 0, 0);
                        }
                        if (i < pits) {
                            x.borrow(0, 0);
                        }
                        if (i < fills) {
                            x.fill(1, 0, 0);
                        }
                    }
                    int product = (cuts + pits) * fills;
                    String name = "10: " + cuts + " cuts, " + pits + " pits, " + fills + " fills";
                    is(name + ", one step less", Due.run(x, product - 1), Due.ILLEGAL_STATE);
                    is(name + ", no plan by that", x.check(), BAD);
                    is(name + ", no clash by that", x.clash(0), BAD);
                    boolean enough = pits > 0 || cuts >= fills;
                    is(name, Due.run(x, product), enough ? 0 : 1);
                    is(name + ", one step less again", Due.run(x, product - 1), Due.ILLEGAL_STATE);
                    is(name + ", the plan stays", x.check(), enough ? 0 : BAD);
                    is(name + ", the clash stays", x.clash(0), enough ? BAD : 0);
                }
            }
        }
    }

    /** "How much goes from a source to a fill ..; what that costs"; "its cost, .. moved in all, .. from pits" */
    private static void costOfMoves() {
        HaulFlows x = new HaulFlows();
        x.cut(2, 0, 0, 0);
        x.borrow(0, 3);
        x.borrow(30, 4);
        x.fill(5, 0, 10);
        x.fill(6, 0, 30);
        runs("12: a cut and two pits", x, 0);
        amounts("12: a cut and two pits", x, "20 30 06");
        is("11: of the cut", x.moved(0, 0, 1), 20);
        is("11: of the first pit", x.moved(1, 0, 1), 39);
        is("11: of the second pit", x.moved(2, 1, 1), 24);
        is("11: of nothing", x.moved(2, 0, 1), 0);
        is("12: the cost", x.cost(0), 20 + 39 + 24);
        is("12: moved in all", x.cost(1), 11);
        is("12: from pits", x.cost(2), 9);
    }

    /** "if cut k gave one unit less": one that has some left, one that is used up, the last unit */
    private static void oneUnitLess() {
        HaulFlows x = new HaulFlows();
        x.cut(6, 0, 0, 0);
        x.fill(5, 0, 0);
        runs("13: one left", x, 0);
        is("13: the one that is left", x.dual(0, 0, 0), 0);
        is("13: there is a plan", x.dual(0, 0, 1), 1);
        x.fill(1, 0, 0);
        runs("13: none left", x, 0);
        is("13: none can be missed", x.dual(0, 0, 1), 0);
        is("13: part 0 is 0 then", x.dual(0, 0, 0), 0);
        x.borrow(0, 0);
        runs("13: a pit for nothing", x, 0);
        is("13: the pit steps in", x.dual(0, 0, 0), 0);
        is("13: there is a plan then", x.dual(0, 0, 1), 1);
        HaulFlows y = new HaulFlows();
        y.cut(1, 0, 0, 4);
        y.cut(1, 0, 0, 100000);
        y.fill(1, 0, 0);
        runs("13: the last unit", y, 0);
        is("13: the far cut steps in", y.dual(0, 0, 0), 99996);
        is("13: one that is not used", y.dual(0, 1, 0), 0);
        is("13: there is a plan without it", y.dual(0, 1, 1), 1);
        is("13: the plan itself stays", y.moved(0, 0, 0), 1);
    }

    /** "or fill k wanted one more" */
    private static void oneUnitMore() {
        HaulFlows x = new HaulFlows();
        x.cut(6, 0, 2, 3);
        x.fill(5, 2, 0);
        runs("13: one left", x, 0);
        is("13: the one that is left", x.dual(1, 0, 0), 3);
        is("13: there is a plan", x.dual(1, 0, 1), 1);
        x.most(2, 5);
        runs("13: no room in the week", x, 0);
        is("13: its week is full", x.dual(1, 0, 1), 0);
        is("13: part 0 is 0 then", x.dual(1, 0, 0), 0);
        x.most(2, 6);
        runs("13: room for one", x, 0);
        is("13: room for one", x.dual(1, 0, 0), 3);
        x.most(2, 10000000);
        x.fill(1, 2, 3);
        runs("13: none left", x, 0);
        is("13: no unit more", x.dual(1, 0, 1), 0);
        is("13: nor for the other", x.dual(1, 1, 1), 0);
        HaulFlows y = new HaulFlows();
        y.borrow(0, 0);
        y.fill(1000000, 0, 0);
        runs("13: a fill that wants all", y, 0);
        is("13: and one more for nothing", y.dual(1, 0, 0), 0);
        is("13: there is a plan for it", y.dual(1, 0, 1), 1);
        HaulFlows week = new HaulFlows();
        week.borrow(1, 0);
        week.fill(2, 0, 0);
        week.fill(2, 1, 0);
        week.most(0, 2);
        runs("13: one week is full", week, 0);
        is("13: not there", week.dual(1, 0, 1), 0);
        is("13: but there", week.dual(1, 1, 0), 1);
    }

    /** "BAD: .. the cut gives nothing" */
    private static void theCutGivesNothing() {
        HaulFlows x = new HaulFlows();
        x.cut(999, 0, 0, 0);
        x.cut(1000, 0, 0, 0);
        x.fill(1, 0, 0);
        x.swell(0, 1, 1000);
        runs("13: one gives nothing", x, 0);
        is("13: nothing", x.dual(0, 0, 0), BAD);
        is("13: nothing, part 1", x.dual(0, 0, 1), BAD);
        is("13: one unit, which is wanted", x.dual(0, 1, 1), 0);
        is("13: the fill is asked for still", x.dual(1, 0, 1), 0);
        is("19: what gives nothing", x.level(0, 1), 0);
        is("19: what is left of nothing", x.level(0, 0), 0);
        is("18: its bounds", x.check(), 0);
        is("11: nothing goes", x.moved(0, 0, 0), 0);
        x.swell(0, 2, 1000);
        runs("13: both give one or more", x, 0);
        is("13: one", x.dual(0, 0, 1), 1);
    }

    /** "BAD: none such; the last run was not 1, or something was changed." */
    private static void theLastRunWasNotOne() {
        HaulFlows x = new HaulFlows();
        x.fill(2, 0, 0);
        is("14: nothing was run", x.clash(0), BAD);
        runs("14: no source", x, 1);
        clashes("14: it was 1", x, 0);
        is("14: a run that is refused", Due.run(x, -1), Due.ILLEGAL_STATE);
        clashes("14: what was found stays", x, 0);
        is("14: a call that is refused", x.cut(0, 0, 0, 0), BAD);
        clashes("14: nothing was changed", x, 0);
        x.most(0, 10000000);
        is("14: something was changed", x.clash(0), BAD);
        runs("14: again", x, 1);
        clashes("14: again", x, 0);
        x.borrow(0, 0);
        is("14: changed", x.clash(0), BAD);
        runs("14: now it is 0", x, 0);
        is("14: the last run was 0", x.clash(0), BAD);
        HaulFlows all = new HaulFlows();
        for (int f = 0; f < 8; f++) {
            all.fill(1, 0, 0);
        }
        runs("14: all of them", all, 1);
        clashes("14: all of them, by numbers", all, 0, 1, 2, 3, 4, 5, 6, 7);
        is("14: before the first", all.clash(-1), BAD);
        HaulFlows twice = new HaulFlows();
        twice.cut(5, 0, 0, 0);
        twice.fill(3, 0, 0);
        twice.fill(8, 0, 0);
        twice.fits(1, 1, false);
        runs("14: one cut for both", twice, 1);
        clashes("14: one cut for both", twice, 0, 1);
        twice.cut(10, 1, 0, 0);
        twice.fits(0, 0, false);
        runs("14: a cut for each", twice, 1);
        clashes("14: a run of 1 knows nothing of the one before", twice, 1);
    }

    /** "How much more the best plan would cost without a way" */
    private static void withoutAWay() {
        HaulFlows x = new HaulFlows();
        x.cut(1000000, 0, 0, 0);
        x.swell(0, 8, 1);
        for (int f = 0; f < 8; f++) {
            x.fill(1000000, f, 100000);
        }
        x.way(0, 100000, 0);
        runs("15: all by a way for nothing", x, 0);
        is("15: cost", x.cost(0), 0);
        is("15: without it", x.closure(0, 0), 800000000000L);
        is("15: there is a plan", x.closure(0, 1), 1);
        is("15: asked only", x.cost(0), 0);
        x.way(0, 100000, 1);
        runs("15: a second one", x, 0);
        is("15: without the first", x.closure(0, 0), 8000000);
        is("15: without the second", x.closure(1, 0), 0);
        is("15: there is a plan too", x.closure(1, 1), 1);
        x.bar(0, 0, 11);
        runs("15: the first is barred", x, 0);
        is("15: barred in all weeks", x.closure(0, 0), 0);
        is("15: the second alone", x.closure(1, 0), 8000000L * 99999);
        is("15: no third", x.closure(2, 0), BAD);
    }

    /** "those of nothing left out"; "by source, then by fill" */
    private static void movesOfNothing() {
        HaulFlows x = new HaulFlows();
        x.cut(1, 0, 0, 50);
        x.cut(9, 0, 0, 0);
        x.cut(1, 0, 0, 0);
        x.fill(3, 4, 0);
        x.fill(1, 5, 0);
        x.fill(2, 4, 0);
        runs("16: three moves", x, 0);
        int[][] moves = {{1, 0, 3}, {1, 2, 2}};
        for (int k = 0; k < moves.length; k++) {
            for (int what = 0; what < 3; what++) {
                is("16: move " + k + ", " + what, x.list(4, k, what), moves[k][what]);
            }
        }
        is("16: behind the last", x.list(4, 2, 0), BAD);
        is("16: before the first", x.list(4, -1, 0), BAD);
        is("16: the other week", x.list(5, 0, 1), 1);
        is("16: a week of nothing", x.list(3, 0, 0), BAD);
        is("16: a later week of nothing", x.list(6, 0, 0), BAD);
        HaulFlows most = new HaulFlows();
        most.borrow(0, 0);
        for (int f = 0; f < 8; f++) {
            most.fill(1000000, 11, 0);
        }
        runs("16: eight moves", most, 0);
        is("16: the last of eight", most.list(11, 7, 1), 7);
        is("16: as much as a fill may want", most.list(11, 7, 2), 1000000);
        is("16: no ninth", most.list(11, 8, 0), BAD);
    }

    /** "Up to a metre (that one too)" */
    private static void thatMetreToo() {
        for (long m : new long[] {0, 1, 5000, 99999, 100000}) {
            HaulFlows x = new HaulFlows();
            x.cut(7, 0, 0, m);
            x.fill(5, 0, m);
            is("17: a cut there", x.mass(m, 0), 7);
            is("17: a fill there", x.mass(m, 1), 5);
            is("17: one metre before it, cuts", x.mass(m - 1, 0), m == 0 ? BAD : 0);
            is("17: one metre before it, fills", x.mass(m - 1, 1), m == 0 ? BAD : 0);
            is("17: one metre behind it", x.mass(m + 1, 0), m == 100000 ? BAD : 7);
        }
        HaulFlows y = new HaulFlows();
        y.cut(3, 0, 0, 0);
        y.borrow(100000, 0);
        y.fill(2, 0, 100000);
        y.fill(1, 0, 0);
        y.way(0, 100000, 0);
        y.swell(0, 2, 3);
        runs("17: from end to end", y, 0);
        amounts("17: from end to end", y, "20 01");
        for (long m : new long[] {0, 1, 99999}) {
            is("17: onwards at " + m, y.mass(m, 2), 2);
            is("17: back at " + m, y.mass(m, 3), 1);
        }
        is("17: none goes beyond the end", y.mass(100000, 2), 0);
        is("17: none comes from beyond it", y.mass(100000, 3), 0);
    }

    /** "What is left of a cut by the plan: part 0; 1 what it gives." */
    private static void leftOfACut() {
        HaulFlows x = new HaulFlows();
        x.cut(4, 0, 0, 0);
        x.cut(4, 0, 0, 1);
        x.cut(4, 0, 0, 2);
        x.fill(5, 0, 0);
        runs("19: all, some, nothing", x, 0);
        is("19: all is used", x.level(0, 0), 0);
        is("19: some is left", x.level(1, 0), 3);
        is("19: nothing is used", x.level(2, 0), 4);
        for (int cut = 0; cut < 3; cut++) {
            is("19: what it gives", x.level(cut, 1), 4);
        }
        is("19: no such cut", x.level(3, 0), BAD);
    }

    /** Amounts and costs that an int does not hold */
    private static void beyondInt() {
        HaulFlows x = new HaulFlows();
        for (int i = 0; i < 8; i++) {
            x.cut(1000000, i % 4, 0, 0);
            x.fill(1000000, 0, 100000);
        }
        for (int kind = 0; kind < 4; kind++) {
            x.swell(kind, 1000, 1);
        }
        is("17: what all cuts can give", x.mass(0, 0), 8000000000L);
        runs("12: the whole road", x, 0);
        is("11: what a move costs", x.moved(0, 7, 1), 100000000000L);
        is("12: what all cost", x.cost(0), 800000000000L);
        is("19: what is left", x.level(0, 0), 992000000);
        is("19: what a cut gives", x.level(7, 1), 1000000000);
        HaulFlows pit = new HaulFlows();
        pit.borrow(0, 100000);
        for (int i = 0; i < 8; i++) {
            pit.fill(1000000, 0, 100000);
        }
        runs("12: the dearest pit", pit, 0);
        is("11: what a move from it costs", pit.moved(0, 0, 1), 200000000000L);
        is("12: the dearest road", pit.cost(0), 1600000000000L);
        is("13: the dearest unit", pit.dual(1, 0, 0), 200000);
    }
}
