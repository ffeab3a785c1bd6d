import java.util.NoSuchElementException;

/** Promises 15 to 17: units that are put away, and places that are blocked and open again. */
public final class DoingTest {
    private static final Check check = new Check("DoingTest");
    private static final Class<IllegalStateException> STATE = IllegalStateException.class;
    private static final Class<NoSuchElementException> MISSING = NoSuchElementException.class;

    public static void main(String[] args) {
        promise15WithAllOfItsGroup();
        promise15TakenFromTheFreeRoom();
        promise15HowMany();
        promise15Done();
        promise15NotPlanned();
        promise15RulesDoNotAllowIt();
        promise16Blocked();
        promise16TheLeastCost();
        promise16ThatRulesAllow();
        promise16NoOtherGroup();
        promise16AsOneByOne();
        promise16GotOne();
        promise16GotNone();
        promise16ThereWasNone();
        promise16BlockedAlready();
        promise17BlockedNoMore();
        promise17NotBlocked();
        check.end();
    }

    private static void promise15WithAllOfItsGroup() {
        check.sentence("Promise 15", "A planned unit is put away, with all of its group");
        PutAwayAssign x = Made.with(12, 3, 0);
        for (int u = 3; u < 12; u++) {
            x.together(2, u);
        }
        x.fix(1, 2);
        x.assign(1000);
        x.put(11);
        check.due("ten are done", x.count(3), 10);
        check.due("two groups are left", x.count(2), 2);
        check.due("trips of the two that are left", Made.trips(x), "0 0 -1 -1 -1 -1 -1 -1 -1 -1 -1 -1");
        check.due("all stay where they were planned", Made.plan(x), "0 2 1 1 1 1 1 1 1 1 1 1");
    }

    private static void promise15TakenFromTheFreeRoom() {
        check.sentence("Promise 15", "its size is taken from the place's free room");
        PutAwayAssign x = new PutAwayAssign();
        x.place(1, 0, 1000, 0);
        x.place(1, 0, 1000, 1);
        for (int u = 0; u < 12; u++) {
            x.unit(0, u == 11 ? 1 : 100);
        }
        for (int u = 1; u < 9; u++) {
            x.together(0, u);
        }
        x.assign(10000);
        check.due("put(8)", x.put(8), 9);
        check.due("the group's size is taken", x.told(0, 0), 100);
        check.due("nothing is taken from another place", x.told(1, 0), 1000);
        x.fix(9, 0);
        x.assign(10000);
        check.due("put(9), as much as is free", x.put(9), 1);
        check.due("no room is left", x.told(0, 0), 0);
        x.fix(11, 0);
        x.assign(10000);
        check.due("at(11), where no room is left", x.at(11), -1);
    }

    private static void promise15HowMany() {
        check.sentence("Promise 15", "how many were");
        PutAwayAssign x = new PutAwayAssign();
        x.place(1, 0, 1000, 0);
        x.place(1, 0, 1000, 1);
        for (int u = 0; u < 12; u++) {
            x.unit(0, 1);
        }
        for (int u = 2; u < 12; u++) {
            x.together(u, 1);
        }
        x.assign(10000);
        check.due("put(0), alone", x.put(0), 1);
        check.due("put(5), with all others", x.put(5), 11);
        check.due("all are done", x.count(3), 12);
        check.due("no groups", x.count(2), 0);
    }

    private static void promise15Done() {
        check.sentence("Promise 15", "IllegalStateException: it is done");
        PutAwayAssign x = Made.with(3, 2, 0);
        x.together(0, 1);
        x.assign(1000);
        x.put(0);
        check.refused("put(0) again", STATE, () -> x.put(0));
        check.refused("put(1), done with 0", STATE, () -> x.put(1));
        check.due("the free room stays", x.told(0, 0), 80);
        check.due("done", x.count(3), 2);
        check.due("put(2)", x.put(2), 1);
    }

    private static void promise15NotPlanned() {
        check.sentence("Promise 15", "or not planned");
        PutAwayAssign x = Made.with(2, 1, 0);
        check.refused("put(0), nothing was planned", STATE, () -> x.put(0));
        x.assign(0);
        check.refused("put(0), it cost too much", STATE, () -> x.put(0));
        x.assign(1000);
        check.refused("put(1), no place for it", STATE, () -> x.put(1));
        x.block(0);
        x.open(0);
        check.refused("put(0), moved on to nowhere", STATE, () -> x.put(0));
        x.assign(1000);
        x.together(0, 1);
        check.refused("put(0), together since", STATE, () -> x.put(0));
        check.due("none is done", x.count(3), 0);
        check.due("the free room stays", x.told(0, 0), 100);
    }

    private static void promise15RulesDoNotAllowIt() {
        check.sentence("Promise 15", "or rules do not allow its place any more");
        PutAwayAssign x = Made.with(3, 2, 1);
        x.together(0, 2);
        x.fix(0, 0);
        x.assign(1000);
        x.fix(2, 1);
        check.refused("put(0), 2 is told another place", STATE, () -> x.put(0));
        x.fix(0, 1);
        check.refused("put(0), both are told another place", STATE, () -> x.put(0));
        x.fix(0, -1);
        x.fix(2, -1);
        x.fits(2, 0, false);
        check.refused("put(0), 2 was told not to stand there", STATE, () -> x.put(0));
        check.due("none is done", x.count(3), 0);
        check.due("the free room stays", x.told(0, 0), 100);
        check.due("the plan stays", Made.plan(x), "0 1 0");
        x.fits(1, 0, false);
        x.fits(2, 0, true);
        x.fits(2, 1, false);
        x.fix(2, 0);
        check.due("put(0), allowed again", x.put(0), 2);
    }

    private static void promise16Blocked() {
        check.sentence("Promise 16", "A place is blocked");
        PutAwayAssign x = Made.with(1, 12, 0);
        for (int p = 0; p < 12; p++) {
            x.block(p);
            check.due("told(" + p + ", 2)", x.told(p, 2), 1);
            check.due("barred(0)", x.barred(0), p < 11 ? 0 : 1);
        }
        x.assign(1000);
        check.due("at(0)", x.at(0), -1);
    }

    private static void promise16TheLeastCost() {
        check.sentence("Promise 16", "the group that is planned for it, if one is, gets the place at the least cost"
                + " of those");
        PutAwayAssign x = Made.with(3, 6, 0);
        x.together(0, 2);
        x.fix(0, 0);
        x.fix(1, 1);
        x.assign(1000);
        x.fix(0, -1);
        Made.costs(x, 0, 0, 0, 9, 5, 4, 6);
        Made.costs(x, 2, 0, 0, 0, 0, 0, 0);
        x.block(0);
        check.due("by the cost of its number, as told now", Made.plan(x), "4 1 4");
        check.due("told(4, 3)", x.told(4, 3), 0);
        check.due("told(0, 3)", x.told(0, 3), -1);
        x.cost(0, 3, -1);
        x.block(4);
        check.due("worked out, it is dearer", Made.plan(x), "5 1 5");
    }

    private static void promise16ThatRulesAllow() {
        check.sentence("Promise 16", "of those that rules allow");
        PutAwayAssign x = new PutAwayAssign();
        x.unit(0, 10);
        x.unit(1, 10);
        x.together(0, 1);
        x.place(3, 0, 20, 0);
        x.place(1, 0, 20, 0);
        x.place(3, 0, 20, 0);
        x.place(3, 0, 19, 0);
        x.place(3, 0, 20, 0);
        x.place(3, 0, 20, 999);
        x.block(4);
        x.assign(1000);
        x.fits(1, 2, false);
        check.due("block(0)", x.block(0), 1);
        check.due("the only place that is allowed", Made.plan(x), "5 5");
        x.open(0);
        x.open(4);
        x.fix(1, 4);
        check.due("block(5)", x.block(5), 1);
        check.due("the fixed one", Made.plan(x), "4 4");
    }

    private static void promise16NoOtherGroup() {
        check.sentence("Promise 16", "and no other group is planned for");
        PutAwayAssign x = Made.with(4, 5, 1);
        x.fix(3, 3);
        x.fix(2, 4);
        x.assign(1000);
        x.fix(2, -1);
        check.due("before", Made.plan(x), "0 1 4 3");
        check.due("block(0), between two others", x.block(0), 1);
        check.due("the place between them", Made.plan(x), "2 1 4 3");
        x.put(1);
        check.due("block(2)", x.block(2), 1);
        check.due("where the done one is", Made.plan(x), "1 1 4 3");
        check.due("block(4), all others have one", x.block(4), 0);
        check.due("no place is left", Made.plan(x), "1 1 -1 3");
    }

    private static void promise16AsOneByOne() {
        check.sentence("Promise 16", "(as one by one)");
        PutAwayAssign x = Made.with(2, 6, 0);
        x.fix(0, 3);
        x.fix(1, 2);
        x.assign(1000);
        x.fix(0, -1);
        Made.costs(x, 0, 8, 7, 7, 0, 7, 7);
        x.block(3);
        check.due("of equal costs the lowest", Made.plan(x), "1 2");
        x.block(1);
        check.due("of equal costs the lowest that no other has", Made.plan(x), "4 2");
        Made.costs(x, 1, 0, 0, 0, 0, 0, 0);
        x.block(4);
        check.due("the other one is not moved", Made.plan(x), "5 2");
    }

    private static void promise16GotOne() {
        check.sentence("Promise 16", "1 if it got one");
        PutAwayAssign x = Made.with(1, 12, 1);
        x.assign(1000);
        for (int p = 0; p < 11; p++) {
            check.due("block(" + p + ")", x.block(p), 1);
            check.due("moved on from " + p, x.at(0), p + 1);
        }
        check.due("block(11), the last", x.block(11), 0);
    }

    private static void promise16GotNone() {
        check.sentence("Promise 16", "0 if not");
        PutAwayAssign x = Made.with(3, 2, 0);
        x.assign(1000);
        check.due("block(0), no other place is free", x.block(0), 0);
        check.due("it is planned no more", Made.plan(x), "-1 1 -1");
        check.due("told(0, 3)", x.told(0, 3), -1);
        x.open(0);
        check.due("block(1), it gets the other", x.block(1), 1);
        check.due("those that have none get none", Made.plan(x), "-1 0 -1");
        PutAwayAssign y = Made.with(12, 2, 0);
        for (int u = 1; u < 10; u++) {
            y.together(0, u);
        }
        y.assign(1000);
        y.put(10);
        check.due("block(0), a group of ten, and no room at the other", y.block(0), 0);
    }

    private static void promise16ThereWasNone() {
        check.sentence("Promise 16", "or there was none");
        PutAwayAssign x = Made.with(1, 3, 0);
        check.due("block(2), nothing is planned", x.block(2), 0);
        x.assign(1000);
        check.due("block(1), planned for another", x.block(1), 0);
        check.due("it stays", x.at(0), 0);
        x.put(0);
        check.due("block(0), the unit is done", x.block(0), 0);
        check.due("it stays, done", x.at(0), 0);
        PutAwayAssign y = Made.with(0, 1, 0);
        check.due("block(0), no units", y.block(0), 0);
    }

    private static void promise16BlockedAlready() {
        check.sentence("Promise 16", "IllegalStateException: it is blocked.");
        PutAwayAssign x = Made.with(1, 2, 0);
        x.assign(1000);
        x.block(0);
        check.refused("block(0) again", STATE, () -> x.block(0));
        check.due("the plan stays", x.at(0), 1);
        check.due("it is still blocked", x.told(0, 2), 1);
        check.due("block(1)", x.block(1), 0);
        check.refused("block(2)", MISSING, () -> x.block(2));
        check.refused("block(-1)", MISSING, () -> x.block(-1));
    }

    private static void promise17BlockedNoMore() {
        check.sentence("Promise 17", "A place is blocked no more.");
        PutAwayAssign x = Made.with(1, 2, 1);
        x.block(0);
        x.block(1);
        x.assign(1000);
        x.open(0);
        check.due("told(0, 2)", x.told(0, 2), 0);
        check.due("told(1, 2)", x.told(1, 2), 1);
        check.due("nothing is planned by it", x.at(0), -1);
        x.assign(1000);
        check.due("at(0)", x.at(0), 0);
        check.due("block(0) again", x.block(0), 0);
    }

    private static void promise17NotBlocked() {
        check.sentence("Promise 17", "IllegalStateException: it is not.");
        PutAwayAssign x = Made.with(1, 2, 1);
        x.block(1);
        check.refused("open(0), it never was", STATE, () -> x.open(0));
        x.open(1);
        check.refused("open(1) again", STATE, () -> x.open(1));
        check.due("told(1, 2)", x.told(1, 2), 0);
        check.refused("open(2)", MISSING, () -> x.open(2));
        check.refused("open(-1)", MISSING, () -> x.open(-1));
    }
}
