import java.util.NoSuchElementException;

/** Promises 6, 13 and 18: costs, their bound and their shares. */
public final class CostTest {
    private static final Check check = new Check("CostTest");
    private static final Class<IllegalStateException> STATE = IllegalStateException.class;
    private static final Class<NoSuchElementException> MISSING = NoSuchElementException.class;

    public static void main(String[] args) {
        promise6Cost();
        promise6CostIsToldForTheNumberOfTheGroup();
        promise13Bound();
        promise18Share();
        promise18SumOfZero();
        promise18AsCostsAreNow();
        check.end();
    }

    private static void promise6Cost() {
        PutAwayAssign x = new PutAwayAssign();
        x.unit(1, 10);
        x.place(2, 0, 50, 8);
        x.weight(1, 4);
        check.due("worked out", x.assign(100), 8 * 4 + 40);
        x.cost(0, 0, 0);
        check.due("told 0", x.assign(100), 0);
        x.cost(0, 0, 1000000);
        check.due("told the most, too much", x.assign(999999), -1);
        check.due("told the most", x.assign(1000000), 1000000);
        x.cost(0, 0, -1);
        check.due("worked out again", x.assign(100), 72);
        x.cost(0, 0, 3);
        x.cost(0, 0, Integer.MIN_VALUE);
        check.due("worked out again, far below 0", x.assign(100), 72);
        check.refused("cost(0, 0, 1000001)", IllegalArgumentException.class, () -> x.cost(0, 0, 1000001));
        check.refused("cost at the end", IllegalArgumentException.class, () -> x.cost(0, 0, Integer.MAX_VALUE));
        check.refused("cost(1, 0, 1)", MISSING, () -> x.cost(1, 0, 1));
        check.refused("cost(0, 1, 1)", MISSING, () -> x.cost(0, 1, 1));
        check.refused("cost(-1, 0, 1)", MISSING, () -> x.cost(-1, 0, 1));
        check.refused("cost(0, -1, 1)", MISSING, () -> x.cost(0, -1, 1));
        check.refused("cost(1, 0, 1000001)", MISSING, () -> x.cost(1, 0, 1000001));
        check.due("worked out behind refusals", x.bound(), 72);
        x.put(0);
        x.cost(0, 0, 5);
        check.due("at(0), done", x.at(0), 0);
    }

    private static void promise6CostIsToldForTheNumberOfTheGroup() {
        PutAwayAssign x = new PutAwayAssign();
        x.unit(0, 10);
        x.unit(0, 20);
        x.place(1, 0, 50, 8);
        x.cost(1, 0, 1);
        x.fits(0, 0, false);
        check.due("told for 1 alone", x.assign(100), 1);
        x.fits(0, 0, true);
        x.together(1, 0);
        check.due("told for 1, not for the group of 0", x.assign(100), 8 + 20);
        x.cost(0, 0, 2);
        check.due("told for 0 and its group", x.assign(100), 2);
    }

    private static void promise13Bound() {
        PutAwayAssign x = new PutAwayAssign();
        check.due("bound() without groups", x.bound(), 0);
        x.unit(0, 10);
        x.unit(0, 10);
        check.due("bound() without places", x.bound(), -1);
        x.place(1, 0, 10, 5);
        check.due("bound() of the same place twice", x.bound(), 10);
        x.place(1, 0, 11, 3);
        check.due("bound() of a cheaper place", x.bound(), 8);
        x.fits(0, 1, false);
        check.due("bound() as rules allow", x.bound(), 9);
        x.assign(100);
        check.due("bound() does not look at the plan", x.bound(), 9);
        x.fits(1, 0, false);
        x.fits(1, 1, false);
        check.due("bound() with a group without places", x.bound(), -1);
        x.fits(1, 1, true);
        x.put(1);
        check.due("bound() without the done one", x.bound(), 5);
        x.block(0);
        check.due("bound() of a blocked place", x.bound(), -1);
        x.open(0);
        x.assign(100);
        x.put(0);
        check.due("bound() with all done", x.bound(), 0);
    }

    private static void promise18Share() {
        PutAwayAssign x = new PutAwayAssign();
        for (int u = 0; u < 3; u++) {
            x.unit(0, 10);
            x.place(1, 0, 100, 0);
            x.fix(u, u);
        }
        x.cost(0, 0, 1);
        x.cost(1, 1, 2);
        x.cost(2, 2, 0);
        check.refused("share(0), not planned", STATE, () -> x.share(0));
        x.assign(100);
        check.due("share(0) of 1 in 3", x.share(0), 33);
        check.due("share(1) of 2 in 3", x.share(1), 66);
        check.due("share(2) of 0 in 3", x.share(2), 0);
        x.cost(0, 0, 1000000);
        x.cost(1, 1, 1000000);
        x.cost(2, 2, 1000000);
        check.due("share(2) of the greatest costs", x.share(2), 33);
        check.refused("share(3)", MISSING, () -> x.share(3));
        check.refused("share(-1)", MISSING, () -> x.share(-1));
        x.put(1);
        check.refused("share(1), done", STATE, () -> x.share(1));
        check.due("share(0) without the done one", x.share(0), 50);
        x.block(2);
        check.refused("share(2), planned no more", STATE, () -> x.share(2));
        check.due("share(0) alone", x.share(0), 100);
    }

    private static void promise18SumOfZero() {
        PutAwayAssign x = new PutAwayAssign();
        x.unit(0, 10);
        x.unit(0, 10);
        x.place(1, 0, 10, 0);
        x.assign(0);
        check.refused("share(0) of 0", ArithmeticException.class, () -> x.share(0));
        check.refused("share(1) of 0, not planned", STATE, () -> x.share(1));
        check.refused("share(2) of 0, missing", MISSING, () -> x.share(2));
        check.due("at(0) behind refusals", x.at(0), 0);
        x.cost(0, 0, 1);
        check.due("share(0) of 1 in 1", x.share(0), 100);
    }

    private static void promise18AsCostsAreNow() {
        PutAwayAssign x = new PutAwayAssign();
        x.unit(0, 10);
        x.unit(1, 10);
        x.unit(0, 10);
        x.place(3, 0, 20, 10);
        x.place(3, 0, 30, 10);
        x.together(0, 2);
        x.fix(0, 0);
        x.fix(1, 1);
        x.assign(100);
        check.due("share(2) of 10 in 40, as its group", x.share(2), 25);
        x.weight(1, 7);
        check.due("share(1) of 90 in 100", x.share(1), 90);
        x.fits(1, 1, false);
        check.due("share(1) of a place that rules bar", x.share(1), 90);
    }
}
