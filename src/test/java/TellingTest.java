import java.util.NoSuchElementException;

/** Promises 5 to 9: what is told of units, and the limits. */
public final class TellingTest {
    private static final Check check = new Check("TellingTest");
    private static final Class<IllegalArgumentException> ARGUMENT = IllegalArgumentException.class;
    private static final Class<IllegalStateException> STATE = IllegalStateException.class;
    private static final Class<NoSuchElementException> MISSING = NoSuchElementException.class;

    public static void main(String[] args) {
        promise5MayOrMayNot();
        promise5MayAtFirst();
        promise6ACost();
        promise6BelowZero();
        promise6Above();
        promise7AllThatAreWithThem();
        promise7NoneIsPlanned();
        promise7HowMany();
        promise7TheSame();
        promise7TogetherAlready();
        promise7OneIsDone();
        promise8AFixedPlace();
        promise8NoneAnyMore();
        promise8Done();
        promise9SoManyGroupsOrFewer();
        promise9CartSize();
        promise9OutsideItsRange();
        check.end();
    }

    private static void promise5MayOrMayNot() {
        check.sentence("Promise 5", "Whether a unit may stand at a place");
        PutAwayAssign x = Made.with(2, 12, 1);
        for (int p = 0; p < 11; p++) {
            x.fits(0, p, false);
            x.fits(0, p, false);
        }
        check.due("barred(0), one place left", x.barred(0), 0);
        x.fits(0, 11, false);
        check.due("barred(0), told at all places", x.barred(0), 3);
        check.due("barred(1), not told", x.barred(1), 0);
        x.fits(0, 0, true);
        check.due("barred(0), told twice and taken back once", x.barred(0), 0);
        x.assign(1000);
        check.due("the only place for 0", Made.plan(x), "0 1");
        x.fits(0, 0, false);
        check.due("the plan stays", Made.plan(x), "0 1");
        x.put(1);
        check.taken("fits() of a done one", () -> x.fits(1, 1, false));
        check.due("at(1), done", x.at(1), 1);
    }

    private static void promise5MayAtFirst() {
        check.sentence("Promise 5", "(it may at first)");
        PutAwayAssign x = Made.with(1, 0, 0);
        for (int p = 0; p < 12; p++) {
            x.place(1, 0, 100, 0);
            check.due("barred(0) of a new place", x.barred(0), 0);
            x.fits(0, p, false);
            check.due("barred(0), told not to", x.barred(0), 3);
        }
        x.unit(0, 10);
        check.due("barred() of a new unit", x.barred(1), 0);
        x.fits(1, 0, true);
        check.due("barred() told what is so", x.barred(1), 0);
    }

    private static void promise6ACost() {
        check.sentence("Promise 6", "A cost (0 .. 1000000) for a unit and place");
        PutAwayAssign x = Made.with(12, 12, 0);
        Made.costs(x, 11, 7, 7, 7, 7, 7, 7, 7, 7, 7, 7, 7, 0);
        for (int u = 0; u < 11; u++) {
            Made.onlyAt(x, u);
        }
        check.due("0, the last unit at the last place", x.assign(0), 0);
        check.due("at(11)", x.at(11), 11);
        x.fits(11, 11, false);
        check.due("7 at the places before", x.assign(7), 7);
        check.due("at(11)", x.at(11), 0);
        Made.onlyAt(x, 11, 5);
        x.cost(11, 5, 1000000);
        check.due("1000000, most is one less", x.assign(999999), -1);
        check.due("1000000", x.assign(1000000), 1000000);
        x.cost(11, 5, 8);
        check.due("told anew", x.assign(1000), 8);
        x.put(11);
        check.taken("cost() of a done one", () -> x.cost(11, 5, 9));
    }

    private static void promise6BelowZero() {
        check.sentence("Promise 6", "below 0: it is worked out again");
        PutAwayAssign x = Made.with(1, 1, 0);
        int[] below = {-1, -2, Integer.MIN_VALUE};
        for (int c : below) {
            x.cost(0, 0, 5);
            check.due("bound() as told", x.bound(), 5);
            x.cost(0, 0, c);
            check.due("bound() worked out behind " + c, x.bound(), 90);
            x.cost(0, 0, c);
            check.due("bound() worked out behind two of " + c, x.bound(), 90);
        }
    }

    private static void promise6Above() {
        check.sentence("Promise 6", "IllegalArgumentException: above.");
        PutAwayAssign x = Made.with(1, 1, 0);
        x.cost(0, 0, 5);
        check.refused("cost(0, 0, 1000001)", ARGUMENT, () -> x.cost(0, 0, 1000001));
        check.refused("cost(0, 0, greatest)", ARGUMENT, () -> x.cost(0, 0, Integer.MAX_VALUE));
        check.due("the cost stays", x.bound(), 5);
    }

    private static void promise7AllThatAreWithThem() {
        check.sentence("Promise 7", "Two units are together (and all that are with them");
        PutAwayAssign x = Made.with(6, 6, 1);
        x.together(5, 3);
        x.together(2, 4);
        check.due("groups before", x.count(2), 4);
        x.together(5, 4);
        check.due("groups", x.count(2), 3);
        x.assign(1000);
        check.due("all four are at one place", Made.plan(x), "0 1 2 2 2 2");
        x.put(3);
        check.due("all four are done", x.count(3), 4);
    }

    private static void promise7NoneIsPlanned() {
        check.sentence("Promise 7", "none of them is planned then");
        PutAwayAssign x = Made.with(6, 6, 1);
        x.together(0, 1);
        x.together(3, 4);
        x.assign(1000);
        check.due("all planned", Made.plan(x), "0 0 1 2 2 3");
        x.together(4, 1);
        check.due("none of the four is planned", Made.plan(x), "-1 -1 1 -1 -1 3");
        check.due("no group is planned for place 0", x.told(0, 3), -1);
        check.due("no group is planned for place 2", x.told(2, 3), -1);
        check.refused("put() of one of them", STATE, () -> x.put(0));
        x.unit(0, 1);
        x.together(6, 5);
        check.due("a planned one with one not planned", Made.plan(x), "-1 -1 1 -1 -1 -1 -1");
    }

    private static void promise7HowMany() {
        check.sentence("Promise 7", "how many are in their group");
        PutAwayAssign x = Made.with(12, 0, 0);
        for (int u = 0; u < 12; u += 2) {
            check.due("two alone", x.together(u + 1, u), 2);
        }
        check.due("two and two", x.together(11, 0), 4);
        check.due("four and two", x.together(0, 2), 6);
        check.due("six and two", x.together(5, 3), 8);
        check.due("two and eight", x.together(6, 10), 10);
        check.due("all", x.together(9, 7), 12);
    }

    private static void promise7TheSame() {
        check.sentence("Promise 7", "IllegalStateException: the same");
        PutAwayAssign x = Made.with(12, 12, 0);
        x.assign(10000);
        for (int u = 0; u < 12; u++) {
            int same = u;
            check.refused("together(" + u + ", " + u + ")", STATE, () -> x.together(same, same));
            check.due("it is still planned", x.at(u), u);
        }
    }

    private static void promise7TogetherAlready() {
        check.sentence("Promise 7", "together already");
        PutAwayAssign x = Made.with(4, 4, 0);
        x.together(0, 1);
        x.together(2, 1);
        x.assign(1000);
        check.refused("as told", STATE, () -> x.together(0, 1));
        check.refused("the other way round", STATE, () -> x.together(1, 0));
        check.refused("through another", STATE, () -> x.together(0, 2));
        check.due("they are still planned", Made.plan(x), "0 0 0 1");
        check.due("groups", x.count(2), 2);
    }

    private static void promise7OneIsDone() {
        check.sentence("Promise 7", "or one is done");
        PutAwayAssign x = Made.with(5, 3, 0);
        x.together(0, 1);
        x.assign(1000);
        x.put(0);
        x.put(2);
        check.refused("the first is done", STATE, () -> x.together(2, 3));
        check.refused("the second is done", STATE, () -> x.together(3, 2));
        check.refused("both are done", STATE, () -> x.together(0, 2));
        check.refused("both are done, once together", STATE, () -> x.together(0, 1));
        check.refused("the same, done", STATE, () -> x.together(0, 0));
        check.due("all stays", Made.plan(x), "0 0 1 2 -1");
        check.due("groups", x.count(2), 2);
        check.due("those that are not done", x.together(3, 4), 2);
    }

    private static void promise8AFixedPlace() {
        check.sentence("Promise 8", "A unit's fixed place");
        PutAwayAssign x = Made.with(2, 12, 1);
        x.fix(0, 11);
        x.assign(1000);
        check.due("the last place", Made.plan(x), "11 0");
        x.fix(0, 0);
        check.due("the plan stays", Made.plan(x), "11 0");
        x.assign(1000);
        check.due("the first place, told anew", Made.plan(x), "0 1");
        check.refused("fix(0, 12)", MISSING, () -> x.fix(0, 12));
        check.refused("fix(2, 0)", MISSING, () -> x.fix(2, 0));
        x.assign(1000);
        check.due("as before the refusals", Made.plan(x), "0 1");
    }

    private static void promise8NoneAnyMore() {
        check.sentence("Promise 8", "place -1: none any more");
        PutAwayAssign x = Made.with(2, 2, 1);
        check.taken("fix(0, -1), none before", () -> x.fix(0, -1));
        x.fix(0, 1);
        x.fix(0, -1);
        x.assign(1000);
        check.due("none any more", Made.plan(x), "0 1");
        x.fix(0, 1);
        check.refused("fix(0, -2)", MISSING, () -> x.fix(0, -2));
        check.refused("fix(0, least)", MISSING, () -> x.fix(0, Integer.MIN_VALUE));
        x.assign(1000);
        check.due("still fixed", Made.plan(x), "1 0");
        check.refused("fix(2, -1)", MISSING, () -> x.fix(2, -1));
        PutAwayAssign y = Made.with(1, 0, 0);
        check.taken("fix(0, -1) without places", () -> y.fix(0, -1));
        check.refused("fix(0, 0) without places", MISSING, () -> y.fix(0, 0));
    }

    private static void promise8Done() {
        check.sentence("Promise 8", "IllegalStateException: it is done.");
        PutAwayAssign x = Made.with(2, 2, 1);
        x.assign(1000);
        x.put(0);
        check.refused("fix(0, 0)", STATE, () -> x.fix(0, 0));
        check.refused("fix(0, 1)", STATE, () -> x.fix(0, 1));
        check.refused("fix(0, -1)", STATE, () -> x.fix(0, -1));
        check.refused("fix(0, 2), which there is not", MISSING, () -> x.fix(0, 2));
        check.taken("fix(1, 0), not done", () -> x.fix(1, 0));
        check.due("at(0)", x.at(0), 0);
    }

    private static void promise9SoManyGroupsOrFewer() {
        check.sentence("Promise 9", "Plans of so many groups (0 .. 8) or fewer are best");
        for (int groups = 2; groups <= 12; groups++) {
            PutAwayAssign x = Made.with(groups, 2, 0);
            for (int u = 2; u < groups; u++) {
                Made.onlyAt(x, u);
            }
            Made.costs(x, 0, 0, 1);
            Made.costs(x, 1, 0, 90);
            for (int limit = 0; limit <= 8; limit++) {
                x.limits(limit, 100);
                check.due(groups + " groups, limit " + limit, x.assign(1000), groups <= limit ? 1 : 90);
                check.due("exact()", x.exact(), groups <= limit);
            }
        }
        PutAwayAssign y = Made.with(9, 1, 0);
        y.limits(8, 100);
        y.together(3, 8);
        y.assign(1000);
        check.due("nine units in eight groups", y.exact(), true);
        y.limits(7, 100);
        check.due("exact() until it is planned anew", y.exact(), true);
        y.assign(1000);
        check.due("nine units in eight groups, limit 7", y.exact(), false);
        y.put(0);
        y.assign(1000);
        check.due("seven groups, as two of nine are together and one is done", y.exact(), true);
    }

    private static void promise9CartSize() {
        check.sentence("Promise 9", "a cart has a size 1 .. 1000");
        PutAwayAssign x = new PutAwayAssign();
        for (int u = 0; u < 12; u++) {
            x.unit(0, u == 0 || u == 11 ? 1 : u == 10 ? 99 : 100);
            x.place(1, 0, 100, 0);
            x.fix(u, u);
        }
        x.assign(1000);
        x.limits(6, 1000);
        check.due("eleven units of 1000 in all, and one of 1 more", Made.trips(x), "0 0 0 0 0 0 0 0 0 0 0 1");
        x.limits(6, 999);
        check.due("a cart of 999", Made.trips(x), "0 0 0 0 0 0 0 0 0 0 1 1");
        x.limits(6, 1);
        check.due("a cart of 1", Made.trips(x), "0 1 2 3 4 5 6 7 8 9 10 11");
        check.due("the plan stays", Made.plan(x), "0 1 2 3 4 5 6 7 8 9 10 11");
    }

    private static void promise9OutsideItsRange() {
        check.sentence("Promise 9", "IllegalArgumentException.");
        PutAwayAssign x = Made.with(3, 3, 0);
        x.limits(2, 20);
        int[][] wrong = {{-1, 500}, {9, 500}, {8, 0}, {8, 1001}, {8, -1}, {9, 0},
            {Integer.MAX_VALUE, 500}, {Integer.MIN_VALUE, 500}, {8, Integer.MAX_VALUE}, {8, Integer.MIN_VALUE}};
        for (int[] w : wrong) {
            check.refused("limits(" + w[0] + ", " + w[1] + ")", ARGUMENT, () -> x.limits(w[0], w[1]));
            x.assign(1000);
            check.due("exact() at the limit before", x.exact(), false);
            check.due("trips with the cart before", Made.trips(x), "0 0 1");
        }
        x.limits(8, 1000);
        x.assign(1000);
        check.due("exact() at 8", x.exact(), true);
        x.limits(0, 1);
        x.assign(1000);
        check.due("exact() at 0", x.exact(), false);
    }
}
