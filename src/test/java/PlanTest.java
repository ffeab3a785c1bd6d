import java.util.NoSuchElementException;

/** Terms: a plan, a best one and one made one by one; promises 10 to 12: assign, at and exact. */
public final class PlanTest {
    private static final Check check = new Check("PlanTest");
    private static final Class<IllegalArgumentException> ARGUMENT = IllegalArgumentException.class;
    private static final Class<NoSuchElementException> MISSING = NoSuchElementException.class;

    public static void main(String[] args) {
        eachPlaceToOneGroup();
        placesThatRulesAllow();
        asManyGroupsAsPossible();
        asManyGroupsAtTheGreatestCost();
        asManyGroupsWithFewPlaces();
        theLeastSum();
        theLeastSumOfLargeCosts();
        theFirstOfEqualPlans();
        theFirstGroupBeforeAllOthers();
        noneIsBehindAll();
        thenTheNextOne();
        oneByOneInOrder();
        oneByOneTheLowest();
        oneByOneOrNone();
        promise10PlannedAnew();
        promise10NoMoreThanTheLimit();
        promise10TheSum();
        promise10AboveMost();
        promise10MostBelowZero();
        promise11PlannedFor();
        promise11AtWhichItWasDone();
        promise11None();
        promise11NoSuchUnit();
        promise12MadeAsABestOne();
        promise12FalseBefore();
        check.end();
    }

    /** The limit that makes plans of up to 8 groups best, or none of them. */
    private static PutAwayAssign planning(PutAwayAssign x, boolean best) {
        x.limits(best ? 8 : 0, 100);
        return x;
    }

    private static void eachPlaceToOneGroup() {
        check.sentence("Terms", "each place to one group at most");
        for (int best = 0; best <= 1; best++) {
            PutAwayAssign x = planning(Made.with(3, 2, 1), best == 1);
            check.due("three groups, two places", x.assign(1000), 90 + 91);
            check.due("its plan", Made.plan(x), "0 1 -1");
            x.together(1, 2);
            x.assign(1000);
            check.due("a group of two at one place", Made.plan(x), "0 1 1");
        }
        PutAwayAssign y = Made.with(12, 12, 0);
        y.assign(10000);
        check.due("twelve groups, twelve places", Made.plan(y), "0 1 2 3 4 5 6 7 8 9 10 11");
    }

    private static void placesThatRulesAllow() {
        check.sentence("Terms", "A PLAN gives groups places that rules allow");
        for (int best = 0; best <= 1; best++) {
            PutAwayAssign x = planning(new PutAwayAssign(), best == 1);
            x.unit(0, 10);
            x.place(1, 0, 10, 0);
            x.place(2, 0, 10, 0);
            x.place(1, 0, 10, 0);
            x.place(1, 0, 9, 0);
            x.place(1, 0, 10, 1000);
            x.block(0);
            x.fits(0, 2, false);
            check.due("the only place that is allowed", x.assign(1000), 1000);
            check.due("at(0)", x.at(0), 4);
            x.fix(0, 3);
            check.due("no place is allowed", x.assign(1000), 0);
            check.due("at(0)", x.at(0), -1);
        }
    }

    private static void asManyGroupsAsPossible() {
        check.sentence("Terms", "It is BEST if it gives places to as many groups as possible");
        PutAwayAssign x = Made.with(3, 3, 0);
        Made.costs(x, 0, 0, 0, 1000000);
        Made.costs(x, 1, 0, 1000000, 0);
        Made.costs(x, 2, 0, 0, 0);
        Made.onlyAt(x, 0, 0, 2);
        Made.onlyAt(x, 1, 0, 1);
        Made.onlyAt(x, 2, 0);
        check.due("all, at any cost", x.assign(Integer.MAX_VALUE), 2000000);
        check.due("all, at any cost", Made.plan(x), "2 1 0");
        x.block(2);
        check.due("two, at any cost", x.assign(Integer.MAX_VALUE), 1000000);
        check.due("two, at any cost", Made.plan(x), "0 1 -1");
        x.block(1);
        check.due("one", x.assign(Integer.MAX_VALUE), 0);
        check.due("one", Made.plan(x), "0 -1 -1");
        x.block(0);
        check.due("none", x.assign(0), 0);
        check.due("none", Made.plan(x), "-1 -1 -1");
    }

    /** Seven groups would cost nothing; the eighth gets a place only if all of them move on. */
    private static void asManyGroupsAtTheGreatestCost() {
        check.sentence("Terms", "It is BEST if it gives places to as many groups as possible");
        PutAwayAssign x = planning(Made.with(8, 8, 0), true);
        for (int u = 0; u < 8; u++) {
            for (int p = 0; p < 8; p++) {
                boolean may = u == 7 ? p == 0 : p == u || p == u + 1;
                x.fits(u, p, may);
                x.cost(u, p, p == u ? 0 : 1000000);
            }
        }
        check.due("all eight at the greatest cost", x.assign(8000000), 8000000);
        check.due("all eight at the greatest cost", Made.plan(x), "1 2 3 4 5 6 7 0");
        x.fits(7, 0, false);
        check.due("seven at no cost", x.assign(8000000), 0);
        check.due("seven at no cost", Made.plan(x), "0 1 2 3 4 5 6 -1");
    }

    private static void asManyGroupsWithFewPlaces() {
        check.sentence("Terms", "It is BEST if it gives places to as many groups as possible");
        for (int places = 0; places <= 3; places++) {
            PutAwayAssign x = planning(Made.with(8, places, 0), true);
            for (int from = 0; from < 8; from++) {
                int given = Math.min(places, 8 - from);
                check.due(places + " places from group " + from, x.assign(1000), 90 * given);
                for (int u = 0; u < 8; u++) {
                    check.due(places + " places from group " + from + ", at(" + u + ")", x.at(u),
                            u < from || u >= from + given ? -1 : u - from);
                }
                Made.onlyAt(x, from);
            }
        }
    }

    private static void theLeastSum() {
        check.sentence("Terms", "of such plans at the least sum of costs");
        PutAwayAssign x = Made.with(4, 3, 0);
        Made.costs(x, 0, 10, 20, 30);
        Made.costs(x, 1, 10, 12, 90);
        Made.costs(x, 2, 10, 11, 13);
        Made.costs(x, 3, 9, 50, 60);
        check.due("one goes without", x.assign(1000), 9 + 12 + 13);
        check.due("the dearest goes without", Made.plan(x), "-1 1 2 0");
        x.cost(0, 0, 8);
        check.due("less by one for another", x.assign(1000), 8 + 12 + 13);
        check.due("less by one for another", Made.plan(x), "0 1 2 -1");
        PutAwayAssign y = planning(Made.with(8, 12, 0), true);
        for (int u = 0; u < 8; u++) {
            for (int p = 0; p < 12; p++) {
                y.cost(u, p, p == 11 - u ? 1 : 2);
            }
        }
        check.due("each at its own place", y.assign(1000), 8);
        check.due("each at its own place", Made.plan(y), "11 10 9 8 7 6 5 4");
    }

    private static void theLeastSumOfLargeCosts() {
        check.sentence("Terms", "of such plans at the least sum of costs");
        PutAwayAssign x = planning(Made.with(8, 12, 0), true);
        for (int u = 0; u < 8; u++) {
            for (int p = 0; p < 12; p++) {
                x.cost(u, p, 1000000);
            }
        }
        check.due("the greatest sum", x.assign(8000000), 8000000);
        check.due("the greatest sum", Made.plan(x), "0 1 2 3 4 5 6 7");
        for (int u = 0; u < 8; u++) {
            x.cost(u, 11 - u, 999999);
        }
        check.due("each less by one", x.assign(8000000), 7999992);
        check.due("each less by one", Made.plan(x), "11 10 9 8 7 6 5 4");
    }

    private static void theFirstOfEqualPlans() {
        check.sentence("Terms", "of such ones the first: the first group gets as low a place as possible");
        PutAwayAssign x = Made.with(2, 2, 0);
        check.due("all equal", x.assign(1000), 180);
        check.due("all equal", Made.plan(x), "0 1");
        Made.costs(x, 0, 3, 2);
        Made.costs(x, 1, 4, 3);
        check.due("equal sums of different costs", x.assign(1000), 6);
        check.due("equal sums of different costs", Made.plan(x), "0 1");
        x.cost(0, 0, 4);
        check.due("a lower place, but dearer by one", x.assign(1000), 6);
        check.due("a lower place, but dearer by one", Made.plan(x), "1 0");
    }

    /** All groups but the first would stand lower if the first one stood at place 1. */
    private static void theFirstGroupBeforeAllOthers() {
        check.sentence("Terms", "of such ones the first: the first group gets as low a place as possible");
        PutAwayAssign x = Made.with(5, 12, 0);
        Made.onlyAt(x, 0, 0, 1);
        Made.onlyAt(x, 1, 0);
        Made.onlyAt(x, 2, 2, 11);
        Made.onlyAt(x, 3, 1, 11);
        Made.onlyAt(x, 4, 2);
        check.due("four of five groups", x.assign(1000), 360);
        check.due("the first group at place 0", Made.plan(x), "0 -1 11 1 2");
        x.fits(0, 0, false);
        check.due("four of five groups again", x.assign(1000), 360);
        check.due("the first group not at place 0", Made.plan(x), "1 0 2 11 -1");
    }

    private static void noneIsBehindAll() {
        check.sentence("Terms", "(none is behind all)");
        PutAwayAssign x = Made.with(2, 0, 0);
        for (int p = 0; p < 12; p++) {
            x.place(1, 0, 10, 0);
        }
        Made.onlyAt(x, 0, 11);
        Made.onlyAt(x, 1, 11);
        x.assign(1000);
        check.due("the last place comes before none", Made.plan(x), "11 -1");
        x.fits(0, 0, true);
        x.cost(0, 0, 0);
        x.cost(1, 11, 0);
        x.assign(1000);
        check.due("a place for both", Made.plan(x), "0 11");
        PutAwayAssign y = Made.with(4, 3, 0);
        Made.onlyAt(y, 0, 1, 2);
        Made.onlyAt(y, 1, 1);
        y.assign(1000);
        check.due("1 before none for group 0, none for group 1", Made.plan(y), "1 -1 0 2");
    }

    private static void thenTheNextOne() {
        check.sentence("Terms", "then the next one, and so on");
        PutAwayAssign x = Made.with(3, 4, 0);
        Made.onlyAt(x, 0, 3);
        x.assign(1000);
        check.due("0 has one choice", Made.plan(x), "3 0 1");
        Made.onlyAt(x, 1, 2);
        x.assign(1000);
        check.due("0 and 1 have one choice", Made.plan(x), "3 2 0");
        PutAwayAssign y = planning(Made.with(8, 12, 0), true);
        y.assign(1000);
        check.due("eight equal groups", Made.plan(y), "0 1 2 3 4 5 6 7");
        for (int u = 0; u < 7; u++) {
            y.fits(u, u, false);
        }
        y.assign(1000);
        check.due("each of seven not at its own", Made.plan(y), "1 0 3 2 5 4 7 6");
        y.block(0);
        y.assign(1000);
        check.due("the last of eight", Made.plan(y), "1 2 3 4 5 6 7 8");
    }

    private static void oneByOneInOrder() {
        check.sentence("Terms", "each group, in order, gets the place at the least cost of those that rules allow"
                + " and no group before has");
        PutAwayAssign x = planning(Made.with(3, 3, 0), false);
        Made.costs(x, 0, 2, 1, 3);
        Made.costs(x, 1, 5, 0, 8);
        Made.costs(x, 2, 1, 1, 1000000);
        check.due("one by one", x.assign(Integer.MAX_VALUE), 1 + 5 + 1000000);
        check.due("one by one", Made.plan(x), "1 0 2");
        x.fits(0, 1, false);
        x.block(2);
        check.due("not where rules do not allow it", x.assign(Integer.MAX_VALUE), 2 + 0);
        check.due("not where rules do not allow it", Made.plan(x), "0 1 -1");
        PutAwayAssign y = Made.with(12, 12, 0);
        for (int u = 0; u < 12; u++) {
            for (int p = 0; p < 12; p++) {
                y.cost(u, p, 1000000 - p);
            }
        }
        check.due("twelve groups", y.assign(Integer.MAX_VALUE), 12000000 - 66);
        check.due("twelve groups", Made.plan(y), "11 10 9 8 7 6 5 4 3 2 1 0");
    }

    private static void oneByOneTheLowest() {
        check.sentence("Terms", "of equal costs the lowest");
        PutAwayAssign x = planning(Made.with(3, 4, 0), false);
        for (int u = 0; u < 3; u++) {
            Made.costs(x, u, 1, 0, 0, 1);
        }
        x.assign(1000);
        check.due("the lowest of equal ones", Made.plan(x), "1 2 0");
    }

    private static void oneByOneOrNone() {
        check.sentence("Terms", "or none");
        PutAwayAssign x = planning(Made.with(3, 2, 0), false);
        Made.onlyAt(x, 1, 0);
        x.assign(1000);
        check.due("the only place of 1 is taken by 0", Made.plan(x), "0 -1 1");
        x.block(0);
        x.block(1);
        check.due("no place at all", x.assign(0), 0);
        check.due("no place at all", Made.plan(x), "-1 -1 -1");
        PutAwayAssign y = Made.with(12, 0, 0);
        check.due("twelve groups without places", y.assign(0), 0);
        check.due("twelve groups without places", Made.plan(y), "-1 -1 -1 -1 -1 -1 -1 -1 -1 -1 -1 -1");
    }

    private static void promise10PlannedAnew() {
        check.sentence("Promise 10", "All groups are planned anew");
        for (int best = 0; best <= 1; best++) {
            PutAwayAssign x = planning(Made.with(3, 3, 1), best == 1);
            x.assign(1000);
            check.due("at first", Made.plan(x), "0 1 2");
            x.put(0);
            x.fix(1, 1);
            Made.onlyAt(x, 2, 0);
            check.due("anew, and the done one stays", x.assign(1000), 80 + 91);
            check.due("anew, and the done one stays", Made.plan(x), "0 1 0");
            x.block(0);
            x.open(0);
            check.due("moved on to nowhere", Made.plan(x), "0 1 -1");
            x.assign(1000);
            check.due("planned again", Made.plan(x), "0 1 0");
            Made.onlyAt(x, 1);
            x.assign(1000);
            check.due("planned no more", Made.plan(x), "0 -1 0");
        }
    }

    private static void promise10NoMoreThanTheLimit() {
        check.sentence("Promise 10", "best if there are no more of them than the limit, else one by one");
        PutAwayAssign x = Made.with(4, 2, 0);
        Made.onlyAt(x, 2);
        Made.onlyAt(x, 3);
        Made.costs(x, 0, 0, 1);
        Made.costs(x, 1, 0, 90);
        x.limits(3, 100);
        check.due("four groups, limit 3", x.assign(1000), 90);
        x.limits(4, 100);
        check.due("four groups, limit 4", x.assign(1000), 1);
        x.limits(3, 100);
        x.together(2, 3);
        check.due("four units in three groups, limit 3", x.assign(1000), 1);
        x.limits(2, 100);
        check.due("four units in three groups, limit 2", x.assign(1000), 90);
        PutAwayAssign y = new PutAwayAssign();
        y.limits(0, 100);
        y.assign(0);
        check.due("exact() of no groups, limit 0", y.exact(), true);
        y.unit(0, 1);
        y.assign(0);
        check.due("exact() of one group, limit 0", y.exact(), false);
        y.place(1, 0, 1, 0);
        y.assign(0);
        y.put(0);
        y.assign(0);
        check.due("exact() of one that is done, limit 0", y.exact(), true);
    }

    private static void promise10TheSum() {
        check.sentence("Promise 10", "the sum of the costs");
        for (int best = 0; best <= 1; best++) {
            PutAwayAssign x = planning(Made.with(3, 2, 1), best == 1);
            check.due("two places for three", x.assign(1000), 90 + 91);
            x.together(0, 1);
            check.due("a group costs once", x.assign(1000), 80 + 91);
            x.put(0);
            check.due("a done one costs nothing", x.assign(1000), 70);
            x.put(2);
            check.due("no groups", x.assign(1000), 0);
        }
    }

    private static void promise10AboveMost() {
        check.sentence("Promise 10", "-1, and all stays, if it is above most");
        PutAwayAssign x = planning(Made.with(2, 2, 0), false);
        Made.costs(x, 0, 5, 1);
        Made.costs(x, 1, 7, 1);
        check.due("one by one, one below", x.assign(7), -1);
        check.due("nothing is planned", Made.plan(x), "-1 -1");
        check.due("one by one, just so much", x.assign(8), 8);
        check.due("one by one", Made.plan(x), "1 0");
        planning(x, true);
        check.due("best, one below", x.assign(5), -1);
        check.due("the plan stays", Made.plan(x), "1 0");
        check.due("exact() stays", x.exact(), false);
        check.due("share() stays", x.share(0), 12);
        check.due("best, just so much", x.assign(6), 6);
        check.due("best", Made.plan(x), "0 1");
        planning(x, false);
        check.due("one by one, far below", x.assign(0), -1);
        check.due("the best plan stays", Made.plan(x), "0 1");
        check.due("exact() stays", x.exact(), true);
        x.put(0);
        x.unit(0, 10);
        check.due("-1 with a done and a new one", x.assign(0), -1);
        check.due("they stay", Made.plan(x), "0 1 -1");
        check.due("at any cost", x.assign(Integer.MAX_VALUE) >= 0, true);
    }

    private static void promise10MostBelowZero() {
        check.sentence("Promise 10", "IllegalArgumentException: most is below 0.");
        PutAwayAssign x = new PutAwayAssign();
        check.refused("assign(-1) of nothing", ARGUMENT, () -> x.assign(-1));
        x.unit(0, 10);
        x.place(1, 0, 10, 0);
        check.refused("assign(-1)", ARGUMENT, () -> x.assign(-1));
        check.refused("assign(least)", ARGUMENT, () -> x.assign(Integer.MIN_VALUE));
        check.due("nothing is planned", x.at(0), -1);
        check.due("exact()", x.exact(), false);
        check.due("assign(0)", x.assign(0), 0);
        x.fits(0, 0, false);
        check.refused("assign(-1), planned", ARGUMENT, () -> x.assign(-1));
        check.due("the plan stays", x.at(0), 0);
    }

    private static void promise11PlannedFor() {
        check.sentence("Promise 11", "The place that a unit is planned for");
        PutAwayAssign x = Made.with(2, 12, 0);
        x.fix(0, 11);
        x.assign(1000);
        check.due("the last place and the first one", Made.plan(x), "11 0");
        x.block(11);
        check.due("moved on to nowhere", Made.plan(x), "-1 0");
        x.block(0);
        check.due("moved on", Made.plan(x), "-1 1");
    }

    private static void promise11AtWhichItWasDone() {
        check.sentence("Promise 11", "or at which it was done");
        PutAwayAssign x = Made.with(3, 2, 0);
        x.together(0, 2);
        x.assign(1000);
        x.put(2);
        check.due("done, with its group", Made.plan(x), "0 1 0");
        x.block(0);
        x.fits(0, 0, false);
        x.assign(1000);
        check.due("it was done there, whatever comes", Made.plan(x), "0 1 0");
        x.put(1);
        x.assign(1000);
        check.due("all are done", Made.plan(x), "0 1 0");
    }

    private static void promise11None() {
        check.sentence("Promise 11", "-1 if none (as long as nothing was planned, too)");
        PutAwayAssign x = Made.with(2, 1, 0);
        check.due("nothing was planned", Made.plan(x), "-1 -1");
        x.assign(0);
        check.due("it cost too much", Made.plan(x), "-1 -1");
        x.assign(1000);
        check.due("no place for 1", Made.plan(x), "0 -1");
        x.unit(0, 1);
        check.due("2 came later", Made.plan(x), "0 -1 -1");
    }

    private static void promise11NoSuchUnit() {
        check.sentence("Promise 11", "NoSuchElementException.");
        PutAwayAssign x = Made.with(1, 2, 0);
        int[] missing = {-1, 1, 12, Integer.MIN_VALUE, Integer.MAX_VALUE};
        for (int unit : missing) {
            check.refused("at(" + unit + ")", MISSING, () -> x.at(unit));
        }
        PutAwayAssign y = Made.with(12, 0, 0);
        check.due("at(11)", y.at(11), -1);
        check.refused("at(12), full", MISSING, () -> y.at(12));
    }

    private static void promise12MadeAsABestOne() {
        check.sentence("Promise 12", "Whether the plan was made as a best one");
        PutAwayAssign x = Made.with(3, 3, 0);
        x.assign(1000);
        check.due("made as a best one", x.exact(), true);
        x.put(0);
        x.block(1);
        x.open(1);
        x.together(1, 2);
        x.unit(0, 1);
        x.place(1, 0, 1, 0);
        x.fix(1, 1);
        x.fits(1, 1, false);
        x.cost(1, 1, 1000);
        x.weight(0, 100);
        x.limits(0, 1);
        check.due("it was, whatever came", x.exact(), true);
        x.assign(1000);
        check.due("made one by one, though it is as good", x.exact(), false);
        x.limits(8, 1);
        check.due("it was not", x.exact(), false);
        x.assign(1000);
        check.due("made as a best one again", x.exact(), true);
    }

    private static void promise12FalseBefore() {
        check.sentence("Promise 12", "(false before)");
        PutAwayAssign x = new PutAwayAssign();
        check.due("new", x.exact(), false);
        x.unit(0, 10);
        x.place(1, 0, 100, 0);
        check.due("nothing was planned", x.exact(), false);
        x.assign(89);
        check.due("it cost too much", x.exact(), false);
        check.refused("assign(-1)", ARGUMENT, () -> x.assign(-1));
        check.due("it was refused", x.exact(), false);
    }
}
