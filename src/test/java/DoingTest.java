import java.util.NoSuchElementException;

/** Promises 15 to 17 and 19: putting away, blocked places and trips. */
public final class DoingTest {
    private static final Check check = new Check("DoingTest");
    private static final Class<IllegalStateException> STATE = IllegalStateException.class;
    private static final Class<NoSuchElementException> MISSING = NoSuchElementException.class;

    public static void main(String[] args) {
        promise15Put();
        promise15RulesAnyMore();
        promise16Block();
        promise16OneByOne();
        promise17Open();
        promise19TripsByZones();
        promise19Carts();
        promise19WhoGoes();
        check.end();
    }

    private static void promise15Put() {
        PutAwayAssign x = Made.with(4, 2, 1);
        check.refused("put(0), not planned", STATE, () -> x.put(0));
        x.together(1, 3);
        x.together(1, 2);
        x.assign(1000);
        check.due("put(2) with its group", x.put(2), 3);
        check.due("free room less the group", x.told(x.at(2), 0), 70);
        check.due("at(1), done", x.at(1), 1);
        check.due("at(3), done", x.at(3), 1);
        check.refused("put(1), done", STATE, () -> x.put(1));
        check.refused("put(2), done", STATE, () -> x.put(2));
        check.refused("put(4)", MISSING, () -> x.put(4));
        check.refused("put(-1)", MISSING, () -> x.put(-1));
        check.due("put(0) alone", x.put(0), 1);
        check.due("free room less 10", x.told(0, 0), 90);
        check.due("done", x.count(3), 4);
        check.due("groups", x.count(2), 0);
        x.unit(0, 90);
        x.assign(1000);
        check.due("at(4), as much as is free", x.at(4), 0);
        x.put(4);
        check.due("no free room", x.told(0, 0), 0);
    }

    private static void promise15RulesAnyMore() {
        PutAwayAssign x = Made.with(2, 2, 1);
        x.together(0, 1);
        x.fix(0, 0);
        x.assign(1000);
        x.fix(1, 1);
        check.refused("put(0), fixed elsewhere", STATE, () -> x.put(0));
        check.due("free room stays", x.told(0, 0), 100);
        check.due("none is done", x.count(3), 0);
        x.fix(1, -1);
        x.fits(1, 0, false);
        check.refused("put(0), 1 told not to", STATE, () -> x.put(0));
        check.due("at(0), still planned", x.at(0), 0);
        x.fits(1, 0, true);
        check.due("put(0), allowed again", x.put(0), 2);
        PutAwayAssign y = Made.with(1, 1, 1);
        y.assign(1000);
        y.block(0);
        y.open(0);
        check.refused("put(0), not planned since it was blocked", STATE, () -> y.put(0));
    }

    private static void promise16Block() {
        PutAwayAssign x = Made.with(2, 4, 1);
        x.assign(1000);
        check.due("block(3), none planned", x.block(3), 0);
        check.due("at(0) stays", x.at(0), 0);
        check.due("block(0), moved on", x.block(0), 1);
        check.due("at(0), not where 1 is", x.at(0), 2);
        check.due("at(1) stays", x.at(1), 1);
        check.due("block(1), no place left", x.block(1), 0);
        check.due("at(1), none", x.at(1), -1);
        check.refused("block(1) again", STATE, () -> x.block(1));
        check.refused("block(4)", MISSING, () -> x.block(4));
        check.refused("block(-1)", MISSING, () -> x.block(-1));
        x.put(0);
        check.due("block(2), the unit is done", x.block(2), 0);
        check.due("at(0) stays, done", x.at(0), 2);
    }

    private static void promise16OneByOne() {
        PutAwayAssign x = Made.with(3, 7, 1);
        x.together(0, 2);
        x.fix(0, 0);
        x.fix(1, 1);
        x.assign(1000);
        x.fix(0, -1);
        x.fits(2, 2, false);
        int[] costs = {0, 0, 1, 9, 5, 4, 4};
        for (int p = 0; p < costs.length; p++) {
            x.cost(0, p, costs[p]);
        }
        check.due("block(0)", x.block(0), 1);
        check.due("at(0), least of equal costs", x.at(0), 5);
        check.due("at(2), with its group", x.at(2), 5);
        check.due("told(5, 3)", x.told(5, 3), 0);
        x.put(1);
        check.due("block(5)", x.block(5), 1);
        check.due("at(0), where the done one is", x.at(0), 1);
        x.open(0);
        check.due("block(1)", x.block(1), 1);
        check.due("at(0), the lowest place", x.at(0), 0);
        x.fix(2, 5);
        check.due("block(0), fixed at a blocked place", x.block(0), 0);
        check.due("at(2), none", x.at(2), -1);
    }

    private static void promise17Open() {
        PutAwayAssign x = Made.with(1, 2, 1);
        check.refused("open(0), not blocked", STATE, () -> x.open(0));
        x.block(0);
        x.assign(1000);
        check.due("at(0), blocked", x.at(0), 1);
        x.open(0);
        check.due("at(0) stays", x.at(0), 1);
        x.assign(1000);
        check.due("at(0), open", x.at(0), 0);
        check.refused("open(0) again", STATE, () -> x.open(0));
        check.refused("open(2)", MISSING, () -> x.open(2));
        check.refused("open(-1)", MISSING, () -> x.open(-1));
        check.due("block(0) again", x.block(0), 1);
    }

    private static void promise19TripsByZones() {
        PutAwayAssign x = new PutAwayAssign();
        int[] zones = {3, 0, 3, 1, 0};
        for (int u = 0; u < zones.length; u++) {
            x.unit(0, 10);
            x.place(1, zones[u], 10, 0);
            x.fix(u, u);
        }
        check.due("trip(0) before", x.trip(0), -1);
        x.assign(1000);
        int[] trips = {2, 0, 2, 1, 0};
        for (int u = 0; u < trips.length; u++) {
            check.due("trip(" + u + ")", x.trip(u), trips[u]);
        }
        x.put(3);
        check.due("trip(3), done", x.trip(3), -1);
        check.due("trip(2), without the done one", x.trip(2), 1);
        check.refused("trip(5)", MISSING, () -> x.trip(5));
        check.refused("trip(-1)", MISSING, () -> x.trip(-1));
    }

    private static void promise19Carts() {
        PutAwayAssign x = new PutAwayAssign();
        int[] sizes = {30, 70, 1, 100, 20, 60, 50, 40};
        for (int u = 0; u < sizes.length; u++) {
            x.unit(0, sizes[u]);
            x.place(1, 2, sizes[u], 0);
            x.fix(u, u);
        }
        x.assign(1000);
        tripsAre("carts of 100", x, 0, 0, 1, 2, 3, 3, 4, 4);
        x.limits(6, 50);
        tripsAre("carts of 50, some too small", x, 0, 1, 2, 3, 4, 5, 6, 7);
        x.limits(6, 1000);
        tripsAre("carts of 1000", x, 0, 0, 0, 0, 0, 0, 0, 0);
        x.limits(6, 101);
        tripsAre("carts of 101", x, 0, 0, 0, 1, 2, 2, 3, 3);
        x.limits(6, 1);
        tripsAre("carts of 1", x, 0, 1, 2, 3, 4, 5, 6, 7);
    }

    private static void tripsAre(String what, PutAwayAssign x, int... trips) {
        for (int u = 0; u < trips.length; u++) {
            check.due(what + ", trip(" + u + ")", x.trip(u), trips[u]);
        }
    }

    private static void promise19WhoGoes() {
        PutAwayAssign x = new PutAwayAssign();
        x.unit(0, 60);
        x.unit(0, 50);
        x.unit(0, 50);
        x.unit(1, 10);
        x.place(1, 1, 200, 0);
        x.place(1, 0, 200, 1);
        x.together(0, 2);
        x.assign(1000);
        tripsAre("a group in two trips", x, 1, 0, 2, -1);
        x.fits(0, 0, false);
        tripsAre("planned, if rules allow it or not", x, 1, 0, 2, -1);
        x.block(0);
        tripsAre("not planned any more", x, -1, 0, -1, -1);
    }
}
