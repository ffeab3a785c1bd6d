import java.util.NoSuchElementException;

/** Promises 9 to 12: limits, plans that are best or made one by one, and what is told of them. */
public final class PlanTest {
    private static final Check check = new Check("PlanTest");
    private static final Class<IllegalArgumentException> ARGUMENT = IllegalArgumentException.class;

    public static void main(String[] args) {
        promise9Limits();
        promise9AnyNumberOfExactGroups();
        promise10Most();
        promise10AsManyGroupsAsPossible();
        promise10OneMoreGroupAtTheGreatestCost();
        promise10EightGroupsAndFewPlaces();
        promise10TheLeastSum();
        promise10TheFirstOfEqualPlans();
        promise10OneByOne();
        promise10LargestPlans();
        promise10DoneUnitsStay();
        promise11At();
        promise12Exact();
        check.end();
    }

    private static void costs(PutAwayAssign x, int unit, int... costs) {
        for (int p = 0; p < costs.length; p++) {
            x.cost(unit, p, costs[p]);
        }
    }

    private static void planIs(String what, PutAwayAssign x, int... places) {
        for (int u = 0; u < places.length; u++) {
            check.due(what + ", at(" + u + ")", x.at(u), places[u]);
        }
    }

    private static void promise9Limits() {
        PutAwayAssign x = Made.with(1, 1, 0);
        int[][] wrong = {{-1, 1}, {9, 1}, {0, 0}, {0, 1001}, {0, -1},
            {Integer.MAX_VALUE, 1}, {1, Integer.MAX_VALUE}, {Integer.MIN_VALUE, 1}};
        x.limits(0, 1);
        for (int[] w : wrong) {
            check.refused("limits(" + w[0] + ", " + w[1] + ")", ARGUMENT, () -> x.limits(w[0], w[1]));
        }
        x.assign(1000);
        check.due("exact() at 0", x.exact(), false);
        x.limits(8, 1000);
        check.due("exact() before it is planned anew", x.exact(), false);
        x.assign(1000);
        check.due("exact() at 8", x.exact(), true);
    }

    private static void promise9AnyNumberOfExactGroups() {
        for (int groups = 0; groups <= 12; groups++) {
            PutAwayAssign x = Made.with(groups, 3, 0);
            for (int exact = 0; exact <= 8; exact++) {
                x.limits(exact, 100);
                x.assign(100000);
                check.due("exact() of " + groups + " at " + exact, x.exact(), groups <= exact);
            }
        }
        PutAwayAssign y = Made.with(4, 3, 0);
        y.limits(3, 100);
        y.together(0, 3);
        y.assign(100000);
        check.due("exact() of 4 units in 3 groups", y.exact(), true);
    }

    private static void promise10Most() {
        PutAwayAssign x = Made.with(2, 2, 0);
        costs(x, 0, 5, 1);
        costs(x, 1, 7, 1);
        x.limits(0, 100);
        check.due("assign(8)", x.assign(8), 8);
        planIs("one by one", x, 1, 0);
        x.limits(8, 100);
        check.due("assign(5), too much", x.assign(5), -1);
        planIs("all stays", x, 1, 0);
        check.due("exact() stays", x.exact(), false);
        check.due("assign(6)", x.assign(6), 6);
        planIs("best", x, 0, 1);
        x.limits(0, 100);
        check.due("assign(7), too much", x.assign(7), -1);
        planIs("the best plan stays", x, 0, 1);
        check.due("exact() stays true", x.exact(), true);
        check.refused("assign(-1)", ARGUMENT, () -> x.assign(-1));
        check.refused("assign at the end", ARGUMENT, () -> x.assign(Integer.MIN_VALUE));
        check.due("assign at the other end", x.assign(Integer.MAX_VALUE), 8);
    }

    private static void promise10AsManyGroupsAsPossible() {
        PutAwayAssign x = Made.with(3, 3, 0);
        costs(x, 0, 0, 1000000, 1000000);
        costs(x, 1, 0, 1000000, 1000000);
        costs(x, 2, 0, 1000000, 1000000);
        x.fits(1, 2, false);
        x.fits(2, 1, false);
        x.fits(2, 2, false);
        check.due("all, at any cost", x.assign(Integer.MAX_VALUE), 2000000);
        planIs("all, at any cost", x, 2, 1, 0);
        x.block(1);
        x.block(2);
        check.due("one place alone", x.assign(Integer.MAX_VALUE), 0);
        planIs("one place alone", x, 0, -1, -1);
        x.block(0);
        check.due("no place", x.assign(0), 0);
        planIs("no place", x, -1, -1, -1);
    }

    /** Seven groups would cost nothing; the eighth gets a place only if all of them move on. */
    private static void promise10OneMoreGroupAtTheGreatestCost() {
        PutAwayAssign x = Made.with(8, 8, 0);
        x.limits(8, 100);
        for (int u = 0; u < 8; u++) {
            for (int p = 0; p < 8; p++) {
                boolean may = u == 7 ? p == 0 : p == u || p == u + 1;
                x.fits(u, p, may);
                x.cost(u, p, p == u ? 0 : 1000000);
            }
        }
        check.due("all eight at the greatest cost", x.assign(8000000), 8000000);
        planIs("all eight at the greatest cost", x, 1, 2, 3, 4, 5, 6, 7, 0);
        x.fits(7, 0, false);
        check.due("seven at no cost", x.assign(8000000), 0);
        planIs("seven at no cost", x, 0, 1, 2, 3, 4, 5, 6, -1);
    }

    private static void promise10EightGroupsAndFewPlaces() {
        for (int places = 0; places <= 3; places++) {
            PutAwayAssign x = Made.with(8, places, 0);
            x.limits(8, 100);
            for (int from = 0; from < 8; from++) {
                check.due("eight groups, " + places + " places", x.assign(1000),
                        90 * Math.min(places, 8 - from));
                for (int u = 0; u < 8; u++) {
                    int place = u < from || u - from >= places ? -1 : u - from;
                    check.due("eight groups, " + places + " places from " + from + ", at(" + u + ")", x.at(u), place);
                }
                for (int p = 0; p < places; p++) {
                    x.fits(from, p, false);
                }
            }
        }
    }

    private static void promise10TheLeastSum() {
        PutAwayAssign x = Made.with(4, 3, 0);
        costs(x, 0, 10, 20, 30);
        costs(x, 1, 10, 12, 90);
        costs(x, 2, 10, 11, 13);
        costs(x, 3, 9, 50, 60);
        check.due("the least sum", x.assign(1000), 9 + 12 + 13);
        planIs("the least sum", x, -1, 1, 2, 0);
    }

    private static void promise10TheFirstOfEqualPlans() {
        PutAwayAssign x = Made.with(4, 3, 0);
        check.due("all equal", x.assign(1000), 270);
        planIs("all equal", x, 0, 1, 2, -1);
        x.fits(0, 0, false);
        x.assign(1000);
        planIs("equal but for 0", x, 1, 0, 2, -1);
        x.fits(1, 0, false);
        x.fits(1, 2, false);
        x.assign(1000);
        planIs("none is behind all", x, 1, -1, 0, 2);
        PutAwayAssign y = Made.with(2, 2, 0);
        costs(y, 0, 3, 2);
        costs(y, 1, 4, 3);
        y.assign(1000);
        planIs("equal sums of different costs", y, 0, 1);
        y.fits(1, 1, false);
        y.assign(1000);
        planIs("no choice", y, 1, 0);
        PutAwayAssign z = Made.with(8, 12, 0);
        z.limits(8, 100);
        z.assign(1000);
        planIs("eight equal groups", z, 0, 1, 2, 3, 4, 5, 6, 7);
    }

    private static void promise10OneByOne() {
        PutAwayAssign x = Made.with(4, 3, 0);
        x.limits(3, 100);
        costs(x, 0, 2, 1, 1);
        costs(x, 1, 5, 0, 8);
        costs(x, 2, 1, 1, 1000000);
        costs(x, 3, 0, 0, 0);
        check.due("one by one", x.assign(1000001), -1);
        planIs("too much", x, -1, -1, -1, -1);
        check.due("one by one", x.assign(1000006), 1 + 5 + 1000000);
        planIs("one by one", x, 1, 0, 2, -1);
        x.fits(1, 0, false);
        x.fits(1, 2, false);
        check.due("one has none", x.assign(Integer.MAX_VALUE), 1 + 1 + 0);
        planIs("one has none", x, 1, -1, 0, 2);
        x.together(3, 0);
        check.due("best at three groups", x.assign(Integer.MAX_VALUE), 1 + 0 + 1);
        planIs("best at three groups", x, 2, 1, 0, 2);
    }

    private static void promise10LargestPlans() {
        PutAwayAssign x = Made.with(8, 12, 0);
        x.limits(8, 100);
        for (int u = 0; u < 8; u++) {
            for (int p = 0; p < 12; p++) {
                x.cost(u, p, 1000000);
            }
        }
        check.due("the greatest sum", x.assign(8000000), 8000000);
        planIs("the greatest sum", x, 0, 1, 2, 3, 4, 5, 6, 7);
        for (int u = 0; u < 8; u++) {
            x.cost(u, 11 - u, 999999);
        }
        check.due("each less by one", x.assign(8000000), 7999992);
        planIs("each less by one", x, 11, 10, 9, 8, 7, 6, 5, 4);
        PutAwayAssign y = Made.with(12, 12, 0);
        for (int u = 0; u < 12; u++) {
            for (int p = 0; p < 12; p++) {
                y.cost(u, p, 1000000 - (p > 11 - u ? 0 : p));
            }
        }
        check.due("twelve one by one", y.assign(Integer.MAX_VALUE), 12000000 - 66);
    }

    private static void promise10DoneUnitsStay() {
        PutAwayAssign x = Made.with(3, 2, 0);
        x.assign(1000);
        x.put(0);
        check.due("without the done one", x.assign(1000), 80 + 90);
        planIs("the place of the done one again", x, 0, 0, 1);
    }

    private static void promise11At() {
        PutAwayAssign x = Made.with(2, 1, 0);
        check.due("at(0) before", x.at(0), -1);
        x.assign(1000);
        check.due("at(0) planned", x.at(0), 0);
        check.due("at(1) without a place", x.at(1), -1);
        x.unit(0, 1);
        check.due("at(2) came later", x.at(2), -1);
        x.put(0);
        check.due("at(0) done", x.at(0), 0);
        x.block(0);
        check.due("at(0) done and blocked", x.at(0), 0);
        check.refused("at(3)", NoSuchElementException.class, () -> x.at(3));
        check.refused("at(-1)", NoSuchElementException.class, () -> x.at(-1));
        check.refused("at the end", NoSuchElementException.class, () -> x.at(Integer.MAX_VALUE));
    }

    private static void promise12Exact() {
        PutAwayAssign x = Made.with(3, 3, 0);
        check.due("exact() before", x.exact(), false);
        x.assign(0);
        check.due("exact() behind a plan that costs too much", x.exact(), false);
        x.assign(1000);
        check.due("exact() of a best plan", x.exact(), true);
        x.block(0);
        x.together(1, 2);
        x.limits(0, 1);
        check.due("exact() of how it was made", x.exact(), true);
        x.assign(1000);
        check.due("exact() of one by one", x.exact(), false);
    }
}
