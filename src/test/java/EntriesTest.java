import java.util.NoSuchElementException;

/** Promises 1 to 4, 20 and 21: what is entered, and what is told of it. */
public final class EntriesTest {
    private static final Check check = new Check("EntriesTest");
    private static final Class<IllegalArgumentException> ARGUMENT = IllegalArgumentException.class;
    private static final Class<NoSuchElementException> MISSING = NoSuchElementException.class;
    private static final Class<UnsupportedOperationException> NO_ROOM = UnsupportedOperationException.class;

    public static void main(String[] args) {
        promise1NothingIsThere();
        promise1ExactAsFarAsSixGroups();
        promise1CartsOfAHundred();
        promise2Units();
        promise3Places();
        promise4Weights();
        promise20Told();
        promise21Count();
        check.end();
    }

    private static void promise1NothingIsThere() {
        PutAwayAssign x = new PutAwayAssign();
        for (int what = 0; what <= 3; what++) {
            check.due("new count(" + what + ")", x.count(what), 0);
        }
        check.due("new exact()", x.exact(), false);
        check.due("new bound()", x.bound(), 0);
        check.refused("new at(0)", MISSING, () -> x.at(0));
        check.refused("new told(0, 0)", MISSING, () -> x.told(0, 0));
        check.due("new assign(0)", x.assign(0), 0);
        check.due("exact() of no groups", x.exact(), true);
    }

    private static void promise1ExactAsFarAsSixGroups() {
        PutAwayAssign x = new PutAwayAssign();
        x.place(255, 0, 100, 0);
        for (int u = 0; u < 6; u++) {
            x.unit(0, 1);
        }
        x.assign(1000);
        check.due("exact() of six groups", x.exact(), true);
        x.unit(0, 1);
        x.assign(1000);
        check.due("exact() of seven groups", x.exact(), false);
    }

    private static void promise1CartsOfAHundred() {
        PutAwayAssign x = new PutAwayAssign();
        for (int u = 0; u < 3; u++) {
            x.unit(0, u < 2 ? 50 : 1);
            x.place(255, 0, 100, 0);
        }
        x.assign(1000);
        check.due("trip(1) with a full cart", x.trip(1), 0);
        check.due("trip(2) behind a full cart", x.trip(2), 1);
    }

    private static void promise2Units() {
        PutAwayAssign x = new PutAwayAssign();
        int[][] wrong = {{-1, 1}, {8, 1}, {0, 0}, {0, 101}, {0, -5},
            {Integer.MAX_VALUE, 1}, {Integer.MIN_VALUE, 1}, {0, Integer.MAX_VALUE}, {0, Integer.MIN_VALUE}};
        for (int[] w : wrong) {
            check.refused("unit(" + w[0] + ", " + w[1] + ")", ARGUMENT, () -> x.unit(w[0], w[1]));
        }
        check.due("units after refusals", x.count(0), 0);
        for (int u = 0; u < 12; u++) {
            check.due("unit " + u, x.unit(u % 8, u == 0 ? 1 : 100), u);
        }
        check.refused("a unit too many", NO_ROOM, () -> x.unit(0, 1));
        check.refused("a wrong unit too many", ARGUMENT, () -> x.unit(8, 1));
        check.due("units at last", x.count(0), 12);
        check.refused("at(12)", MISSING, () -> x.at(12));
    }

    private static void promise3Places() {
        PutAwayAssign x = new PutAwayAssign();
        int[][] wrong = {{-1, 0, 0, 0}, {256, 0, 0, 0}, {0, -1, 0, 0}, {0, 4, 0, 0},
            {0, 0, -1, 0}, {0, 0, 1001, 0}, {0, 0, 0, -1}, {0, 0, 0, 1001},
            {Integer.MIN_VALUE, 0, 0, 0}, {0, Integer.MAX_VALUE, 0, 0}, {0, 0, Integer.MIN_VALUE, 0}};
        for (int[] w : wrong) {
            check.refused("place(" + w[0] + ", " + w[1] + ", " + w[2] + ", " + w[3] + ")", ARGUMENT,
                    () -> x.place(w[0], w[1], w[2], w[3]));
        }
        check.due("places after refusals", x.count(1), 0);
        check.due("place at the low ends", x.place(0, 0, 0, 0), 0);
        check.due("place at the high ends", x.place(255, 3, 1000, 1000), 1);
        for (int p = 2; p < 12; p++) {
            check.due("place " + p, x.place(1, 1, 1, 1), p);
        }
        check.refused("a place too many", NO_ROOM, () -> x.place(0, 0, 0, 0));
        check.refused("a wrong place too many", ARGUMENT, () -> x.place(256, 0, 0, 0));
        check.due("places at last", x.count(1), 12);
        check.refused("told(12, 0)", MISSING, () -> x.told(12, 0));
    }

    private static void promise4Weights() {
        PutAwayAssign x = new PutAwayAssign();
        int[][] wrong = {{-1, 1}, {8, 1}, {0, -1}, {0, 101}, {Integer.MAX_VALUE, 1}, {0, Integer.MIN_VALUE}};
        for (int[] w : wrong) {
            check.refused("weight(" + w[0] + ", " + w[1] + ")", ARGUMENT, () -> x.weight(w[0], w[1]));
        }
        x.unit(0, 10);
        x.unit(7, 10);
        x.place(129, 0, 10, 7);
        check.due("bound() at weights of 1", x.bound(), 14);
        x.weight(7, 100);
        check.due("bound() at weights of 1 and 100", x.bound(), 707);
        x.weight(0, 0);
        check.due("bound() at weights of 0 and 100", x.bound(), 700);
        x.together(0, 1);
        x.weight(7, 3);
        check.due("bound() of a group too large", x.bound(), -1);
        x.place(129, 0, 20, 10);
        check.due("bound() by the greatest weight", x.bound(), 30);
        x.weight(0, 5);
        check.due("bound() by the other weight", x.bound(), 50);
    }

    private static void promise20Told() {
        PutAwayAssign x = new PutAwayAssign();
        x.place(255, 3, 70, 9);
        x.unit(0, 20);
        x.unit(0, 30);
        check.due("told free", x.told(0, 0), 70);
        check.due("told zone", x.told(0, 1), 3);
        check.due("told not blocked", x.told(0, 2), 0);
        check.due("told no group", x.told(0, 3), -1);
        x.fits(0, 0, false);
        x.assign(1000);
        check.due("told group", x.told(0, 3), 1);
        check.due("told free of a planned place", x.told(0, 0), 70);
        x.put(1);
        check.due("told no group behind put", x.told(0, 3), -1);
        check.due("told free behind put", x.told(0, 0), 40);
        x.block(0);
        check.due("told blocked", x.told(0, 2), 1);
        x.open(0);
        check.due("told open", x.told(0, 2), 0);
        check.refused("told(0, -1)", ARGUMENT, () -> x.told(0, -1));
        check.refused("told(0, 4)", ARGUMENT, () -> x.told(0, 4));
        check.refused("told(-1, 0)", MISSING, () -> x.told(-1, 0));
        check.refused("told(1, 0)", MISSING, () -> x.told(1, 0));
        check.refused("told(1, 4)", MISSING, () -> x.told(1, 4));
    }

    private static void promise21Count() {
        PutAwayAssign x = new PutAwayAssign();
        for (int u = 0; u < 5; u++) {
            x.unit(0, 1);
        }
        x.place(1, 0, 50, 0);
        x.place(1, 0, 50, 0);
        x.together(3, 1);
        check.due("count units", x.count(0), 5);
        check.due("count places", x.count(1), 2);
        check.due("count groups", x.count(2), 4);
        check.due("count done", x.count(3), 0);
        x.assign(1000);
        x.put(3);
        check.due("count units behind put", x.count(0), 5);
        check.due("count groups behind put", x.count(2), 3);
        check.due("count done behind put", x.count(3), 2);
        check.due("count(-1)", x.count(-1), -1);
        check.due("count(4)", x.count(4), -1);
        check.due("count of the least number", x.count(Integer.MIN_VALUE), -1);
    }
}
