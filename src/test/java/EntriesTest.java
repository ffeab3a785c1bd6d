import java.util.NoSuchElementException;

/** Promises 1 to 4: a new object, and what is entered. */
public final class EntriesTest {
    private static final Check check = new Check("EntriesTest");
    private static final Class<IllegalArgumentException> ARGUMENT = IllegalArgumentException.class;
    private static final Class<NoSuchElementException> MISSING = NoSuchElementException.class;
    private static final Class<UnsupportedOperationException> NO_ROOM = UnsupportedOperationException.class;

    public static void main(String[] args) {
        promise1NothingThere();
        promise1ExactAsFarAsSixGroups();
        promise1CartsOfAHundred();
        promise1EachObjectOnItsOwn();
        promise2ItsNumber();
        promise2OutsideItsRange();
        promise2NoRoom();
        promise3ItsNumber();
        promise3OutsideItsRange();
        promise3NoRoom();
        promise4AWeight();
        promise4OutsideItsRange();
        check.end();
    }

    private static void promise1NothingThere() {
        check.sentence("Promise 1", "Nothing there");
        PutAwayAssign x = new PutAwayAssign();
        for (int what = 0; what <= 3; what++) {
            check.due("count(" + what + ")", x.count(what), 0);
        }
        check.due("exact()", x.exact(), false);
        check.due("bound()", x.bound(), 0);
        check.refused("at(0)", MISSING, () -> x.at(0));
        check.refused("told(0, 0)", MISSING, () -> x.told(0, 0));
        check.due("assign(0) of nothing", x.assign(0), 0);
    }

    private static void promise1ExactAsFarAsSixGroups() {
        check.sentence("Promise 1", "exact as far as six groups");
        for (int groups = 5; groups <= 7; groups++) {
            PutAwayAssign x = Made.with(groups, 2, 0);
            for (int u = 2; u < groups; u++) {
                Made.onlyAt(x, u);
            }
            Made.costs(x, 0, 0, 1);
            Made.costs(x, 1, 0, 90);
            check.due("assign() of " + groups + " groups", x.assign(1000), groups <= 6 ? 1 : 90);
            check.due("exact() of " + groups + " groups", x.exact(), groups <= 6);
        }
    }

    private static void promise1CartsOfAHundred() {
        check.sentence("Promise 1", "carts of size 100");
        PutAwayAssign x = new PutAwayAssign();
        int[] sizes = {1, 99, 1, 100};
        for (int u = 0; u < sizes.length; u++) {
            x.unit(0, sizes[u]);
            x.place(1, 0, 100, 0);
            x.fix(u, u);
        }
        x.assign(1000);
        check.due("a full cart, and 101 are too many", Made.trips(x), "0 0 1 2");
    }

    private static void promise1EachObjectOnItsOwn() {
        check.sentence("Promise 1", "A new object");
        PutAwayAssign x = Made.with(1, 1, 0);
        x.place(1, 0, 10, 1);
        PutAwayAssign other = Made.with(12, 12, 1);
        other.weight(0, 100);
        other.limits(0, 1);
        other.assign(100000);
        other.put(0);
        check.due("its numbers, weight and limits are its own", x.assign(1000), 1);
        check.due("exact() of its own", x.exact(), true);
        check.due("count(3) of its own", x.count(3), 0);
    }

    private static void promise2ItsNumber() {
        check.sentence("Promise 2", "A unit: its number.");
        PutAwayAssign x = Made.with(0, 2, 0);
        check.due("the first", x.unit(0, 1), 0);
        x.assign(1000);
        check.due("the second", x.unit(0, 2), 1);
        check.due("the plan stays, and the new one is not planned", Made.plan(x), "0 -1");
        check.due("it is a group", x.count(2), 2);
    }

    private static void promise2OutsideItsRange() {
        check.sentence("Promise 2", "IllegalArgumentException, UnsupportedOperationException.");
        PutAwayAssign x = new PutAwayAssign();
        int[][] wrong = {{-1, 1}, {8, 1}, {0, 0}, {0, 101}, {-1, 101}};
        for (int[] w : wrong) {
            check.refused("unit(" + w[0] + ", " + w[1] + ")", ARGUMENT, () -> x.unit(w[0], w[1]));
        }
        check.due("units behind refusals", x.count(0), 0);
        check.due("groups behind refusals", x.count(2), 0);
        check.due("the next number", x.unit(7, 100), 0);
    }

    private static void promise2NoRoom() {
        check.sentence("Promise 2", "IllegalArgumentException, UnsupportedOperationException.");
        PutAwayAssign x = Made.with(12, 0, 0);
        check.refused("unit(0, 1), full", NO_ROOM, () -> x.unit(0, 1));
        check.refused("unit(8, 1), full and wrong", ARGUMENT, () -> x.unit(8, 1));
        check.refused("unit(0, 0), full and wrong", ARGUMENT, () -> x.unit(0, 0));
        check.due("units", x.count(0), 12);
        check.due("groups", x.count(2), 12);
        check.due("there is still room for a place", x.place(1, 0, 1, 1), 0);
    }

    private static void promise3ItsNumber() {
        check.sentence("Promise 3", "A place: its number (fits 0 .. 255).");
        PutAwayAssign x = new PutAwayAssign();
        int[] wrong = {-1, 256, 257, Integer.MIN_VALUE, Integer.MAX_VALUE};
        for (int fits : wrong) {
            check.refused("place(" + fits + ", 0, 1, 1)", ARGUMENT, () -> x.place(fits, 0, 1, 1));
        }
        check.due("place(0, 3, 5, 1)", x.place(0, 3, 5, 1), 0);
        check.due("place(255, 0, 6, 1)", x.place(255, 0, 6, 1), 1);
        check.due("its free room", x.told(0, 0), 5);
        check.due("its zone", x.told(0, 1), 3);
        check.due("it is not blocked", x.told(0, 2), 0);
        check.due("no group is planned for it", x.told(0, 3), -1);
        PutAwayAssign y = Made.with(2, 1, 1);
        y.assign(1000);
        y.place(1, 0, 10, 0);
        check.due("the plan stays behind a new place", Made.plan(y), "0 -1");
    }

    private static void promise3OutsideItsRange() {
        check.sentence("Promise 3", "IllegalArgumentException, UnsupportedOperationException.");
        PutAwayAssign x = new PutAwayAssign();
        int[][] wrong = {{-1, 0, 0, 0}, {256, 0, 0, 0}, {0, -1, 0, 0}, {0, 4, 0, 0},
            {0, 0, -1, 0}, {0, 0, 1001, 0}, {0, 0, 0, -1}, {0, 0, 0, 1001}};
        for (int[] w : wrong) {
            check.refused("place(" + w[0] + ", " + w[1] + ", " + w[2] + ", " + w[3] + ")", ARGUMENT,
                    () -> x.place(w[0], w[1], w[2], w[3]));
        }
        check.due("places behind refusals", x.count(1), 0);
        check.due("the next number", x.place(255, 3, 1000, 1000), 0);
    }

    private static void promise3NoRoom() {
        check.sentence("Promise 3", "IllegalArgumentException, UnsupportedOperationException.");
        PutAwayAssign x = Made.with(0, 12, 0);
        check.refused("place(1, 0, 1, 1), full", NO_ROOM, () -> x.place(1, 0, 1, 1));
        check.refused("place(256, 0, 1, 1), full and wrong", ARGUMENT, () -> x.place(256, 0, 1, 1));
        check.refused("place(1, 4, 1, 1), full and wrong", ARGUMENT, () -> x.place(1, 4, 1, 1));
        check.refused("place(1, 0, -1, 1), full and wrong", ARGUMENT, () -> x.place(1, 0, -1, 1));
        check.refused("place(1, 0, 1, 1001), full and wrong", ARGUMENT, () -> x.place(1, 0, 1, 1001));
        check.due("places", x.count(1), 12);
        check.due("there is still room for a unit", x.unit(0, 1), 0);
    }

    private static void promise4AWeight() {
        check.sentence("Promise 4", "A kind's weight (0 .. 100).");
        PutAwayAssign x = new PutAwayAssign();
        x.weight(7, 100);
        x.place(129, 0, 10, 7);
        x.unit(7, 10);
        check.due("told before the unit came", x.bound(), 700);
        x.weight(7, 0);
        check.due("told anew", x.bound(), 0);
        x.unit(0, 10);
        check.due("of another kind", x.bound(), 7);
        x.weight(0, 99);
        check.due("of this kind alone", x.bound(), 693);
        x.assign(1000);
        int place = x.at(0);
        x.weight(7, 100);
        check.due("the plan stays", x.at(0), place);
    }

    private static void promise4OutsideItsRange() {
        check.sentence("Promise 4", "IllegalArgumentException.");
        PutAwayAssign x = Made.with(1, 0, 0);
        x.place(1, 0, 10, 3);
        x.weight(0, 5);
        int[][] wrong = {{0, -1}, {0, 101}, {-1, 50}, {8, 50}, {0, Integer.MIN_VALUE}, {0, Integer.MAX_VALUE}};
        for (int[] w : wrong) {
            check.refused("weight(" + w[0] + ", " + w[1] + ")", ARGUMENT, () -> x.weight(w[0], w[1]));
            check.due("its weight behind it", x.bound(), 15);
        }
    }
}
