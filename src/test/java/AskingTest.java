import java.util.NoSuchElementException;

/** Promises 13, 14 and 18 to 21: calls that only tell. */
public final class AskingTest {
    private static final Check check = new Check("AskingTest");
    private static final Class<IllegalArgumentException> ARGUMENT = IllegalArgumentException.class;
    private static final Class<IllegalStateException> STATE = IllegalStateException.class;
    private static final Class<NoSuchElementException> MISSING = NoSuchElementException.class;
    private static final Class<ArithmeticException> BY_ZERO = ArithmeticException.class;

    public static void main(String[] args) {
        promise13NoPlanCostsLess();
        promise13TheSum();
        promise13AGroupHasNone();
        promise14TheFirstRule();
        promise14ItAndThoseBeforeAsked();
        promise14NoPlaces();
        promise14APlaceIs();
        promise14Done();
        promise18OfAllPlannedGroups();
        promise18AsCostsAreNow();
        promise18RestsAreDropped();
        promise18DoneOrNotPlanned();
        promise18TheSumIsZero();
        promise19NumbersOfTrips();
        promise19ByZonesThenByNumber();
        promise19TheSameZone();
        promise19RoomInTheCart();
        promise19NotPlannedOrDone();
        promise19NoSuchUnit();
        promise20Told();
        promise20NoGroup();
        promise20OutsideItsRange();
        promise21Count();
        promise21AnotherWhat();
        check.end();
    }

    private static void promise13NoPlanCostsLess() {
        check.sentence("Promise 13", "A number that no plan of all groups, as they are now, costs less than");
        PutAwayAssign x = Made.with(3, 3, 1);
        check.due("bound(), all at the first place", x.bound(), 270);
        check.due("the best plan costs more", x.assign(1000), 273);
        x.together(0, 2);
        check.due("bound() of groups as they are now", x.bound(), 80 + 90);
        x.put(1);
        check.due("bound() without the done one, and with room as it is now", x.bound(), 71);
        x.unit(0, 1);
        check.due("bound() with a new one", x.bound(), 71 + 90);
        x.assign(1000);
        x.put(0);
        x.put(3);
        check.due("bound() with all done", x.bound(), 0);
    }

    private static void promise13TheSum() {
        check.sentence("Promise 13", "the sum of each group's least cost of places that rules allow");
        PutAwayAssign x = Made.with(2, 2, 0);
        Made.costs(x, 0, 4, 9);
        Made.costs(x, 1, 3, 8);
        check.due("both at the first place", x.bound(), 7);
        x.fits(0, 0, false);
        check.due("0 may not", x.bound(), 12);
        x.fix(1, 1);
        check.due("1 is fixed", x.bound(), 17);
        x.assign(1000);
        check.due("a plan is not looked at", x.bound(), 17);
        PutAwayAssign y = Made.with(12, 1, 0);
        check.due("twelve groups", y.bound(), 12 * 90);
        for (int u = 0; u < 12; u++) {
            y.cost(u, 0, 1000000);
        }
        check.due("twelve groups at the greatest cost", y.bound(), 12000000);
        check.due("no groups", new PutAwayAssign().bound(), 0);
    }

    private static void promise13AGroupHasNone() {
        check.sentence("Promise 13", "-1 if a group has none");
        PutAwayAssign x = Made.with(3, 0, 0);
        check.due("no places", x.bound(), -1);
        x.place(1, 0, 100, 0);
        for (int u = 0; u < 3; u++) {
            x.fits(u, 0, false);
            check.due("none for " + u, x.bound(), -1);
            x.fits(u, 0, true);
        }
        check.due("one for each", x.bound(), 270);
        x.block(0);
        check.due("the only place is blocked", x.bound(), -1);
    }

    private static void promise14TheFirstRule() {
        check.sentence("Promise 14", "The first rule behind which (it and those before asked) no place is left");
        PutAwayAssign x = new PutAwayAssign();
        x.unit(2, 10);
        x.unit(3, 10);
        x.place(4, 0, 19, 0);
        x.place(4, 0, 19, 0);
        x.block(0);
        check.due("barred(0)", x.barred(0), 0);
        check.due("barred(1), its kind", x.barred(1), 2);
        x.fix(0, 0);
        check.due("barred(0), fixed where it is blocked", x.barred(0), 5);
        x.unit(2, 10);
        x.together(2, 0);
        check.due("barred(2), too large together, and fixed elsewhere", x.barred(2), 4);
        x.fits(2, 1, false);
        check.due("barred(0), and told not to", x.barred(0), 3);
        x.together(1, 0);
        check.due("barred(0), and a kind that does not fit", x.barred(0), 2);
        x.block(1);
        check.due("barred(0), and blocked", x.barred(0), 1);
    }

    /** The last place that falls, falls to the rule that is told: places fall one behind the other. */
    private static void promise14ItAndThoseBeforeAsked() {
        check.sentence("Promise 14", "(it and those before asked)");
        PutAwayAssign x = new PutAwayAssign();
        x.unit(0, 10);
        x.place(1, 0, 10, 0);
        x.place(1, 0, 10, 0);
        x.place(0, 0, 10, 0);
        x.place(1, 0, 9, 0);
        x.fix(0, 2);
        check.due("two left for rule 5", x.barred(0), 5);
        x.fits(0, 0, false);
        check.due("one left for rule 5", x.barred(0), 5);
        x.block(1);
        check.due("one left for rule 4", x.barred(0), 4);
        x.fits(0, 3, false);
        check.due("two left for rule 3", x.barred(0), 3);
        x.block(0);
        x.block(3);
        check.due("one left for rule 2", x.barred(0), 2);
        x.block(2);
        check.due("none left for rule 2", x.barred(0), 1);
    }

    private static void promise14NoPlaces() {
        check.sentence("Promise 14", "no place is left for a unit's group");
        PutAwayAssign x = Made.with(1, 0, 0);
        check.due("no places at all", x.barred(0), 1);
        x.place(0, 0, 0, 0);
        check.due("a place where nothing fits", x.barred(0), 2);
    }

    private static void promise14APlaceIs() {
        check.sentence("Promise 14", "0 if a place is");
        PutAwayAssign x = Made.with(2, 12, 1);
        for (int p = 0; p < 11; p++) {
            x.block(p);
        }
        x.assign(1000);
        check.due("the last of twelve places", x.barred(0), 0);
        check.due("though 0 is planned for it", x.barred(1), 0);
        x.together(0, 1);
        check.due("for both", x.barred(1), 0);
    }

    private static void promise14Done() {
        check.sentence("Promise 14", "IllegalStateException: it is done.");
        PutAwayAssign x = Made.with(3, 2, 1);
        x.together(0, 1);
        x.assign(1000);
        x.put(1);
        check.refused("barred(1)", STATE, () -> x.barred(1));
        check.refused("barred(0), done with it", STATE, () -> x.barred(0));
        check.due("barred(2)", x.barred(2), 0);
        check.refused("barred(3)", MISSING, () -> x.barred(3));
        check.refused("barred(-1)", MISSING, () -> x.barred(-1));
    }

    private static void promise18OfAllPlannedGroups() {
        check.sentence("Promise 18", "A hundred times what a unit's group costs at the place that it is planned for,"
                + " divided by the sum of that of all planned groups");
        PutAwayAssign x = Made.with(5, 4, 0);
        for (int u = 0; u < 4; u++) {
            x.fix(u, u);
            x.cost(u, u, 25);
        }
        x.together(3, 4);
        x.assign(1000);
        check.due("one of four", x.share(0), 25);
        check.due("one of a group", x.share(4), 25);
        x.put(1);
        check.due("one of three, one is done", x.share(0), 33);
        x.block(2);
        check.due("one of two, one is planned no more", x.share(0), 50);
        x.unit(0, 10);
        x.together(5, 4);
        check.due("one alone, the others are together since", x.share(0), 100);
        PutAwayAssign y = Made.with(12, 12, 0);
        for (int u = 0; u < 12; u++) {
            y.fix(u, u);
            y.cost(u, u, 1000000);
        }
        y.assign(Integer.MAX_VALUE);
        check.due("one of twelve at the greatest cost", y.share(11), 8);
        for (int u = 0; u < 11; u++) {
            y.put(u);
        }
        check.due("one alone at the greatest cost", y.share(11), 100);
    }

    private static void promise18AsCostsAreNow() {
        check.sentence("Promise 18", "(as costs are now");
        PutAwayAssign x = new PutAwayAssign();
        x.unit(0, 10);
        x.unit(1, 10);
        x.unit(0, 10);
        x.place(3, 0, 20, 10);
        x.place(3, 0, 30, 10);
        x.together(0, 2);
        x.fix(0, 0);
        x.fix(1, 1);
        x.assign(100);
        check.due("10 of 40", x.share(2), 25);
        x.weight(1, 7);
        check.due("90 of 100", x.share(1), 90);
        x.cost(0, 0, 0);
        x.cost(2, 0, 50);
        check.due("0 of 90", x.share(0), 0);
        check.due("90 of 90", x.share(1), 100);
        x.fits(1, 1, false);
        x.fix(1, 0);
        check.due("at the place that it is planned for, allowed or not", x.share(1), 100);
    }

    private static void promise18RestsAreDropped() {
        check.sentence("Promise 18", "rests are dropped");
        PutAwayAssign x = Made.with(3, 3, 0);
        for (int u = 0; u < 3; u++) {
            x.fix(u, u);
        }
        x.cost(0, 0, 1);
        x.cost(1, 1, 2);
        x.cost(2, 2, 0);
        x.assign(1000);
        check.due("1 of 3", x.share(0), 33);
        check.due("2 of 3", x.share(1), 66);
        check.due("0 of 3", x.share(2), 0);
        x.cost(1, 1, 1000000);
        check.due("1 of 1000001", x.share(0), 0);
        check.due("1000000 of 1000001", x.share(1), 99);
        x.cost(1, 1, 99);
        check.due("1 of 100", x.share(0), 1);
        x.cost(1, 1, 100);
        check.due("1 of 101", x.share(0), 0);
    }

    private static void promise18DoneOrNotPlanned() {
        check.sentence("Promise 18", "IllegalStateException: it is done, or not planned");
        PutAwayAssign x = Made.with(3, 2, 0);
        check.refused("share(0), nothing was planned", STATE, () -> x.share(0));
        x.assign(1000);
        check.refused("share(2), no place for it", STATE, () -> x.share(2));
        x.put(0);
        check.refused("share(0), done", STATE, () -> x.share(0));
        check.due("share(1)", x.share(1), 100);
        x.together(1, 2);
        check.refused("share(1), together since", STATE, () -> x.share(1));
        check.refused("share(3)", MISSING, () -> x.share(3));
        check.refused("share(-1)", MISSING, () -> x.share(-1));
    }

    private static void promise18TheSumIsZero() {
        check.sentence("Promise 18", "ArithmeticException (the machine's own): the sum is 0.");
        PutAwayAssign x = new PutAwayAssign();
        for (int u = 0; u < 3; u++) {
            x.unit(0, 10);
        }
        x.place(1, 0, 10, 0);
        x.place(1, 0, 10, 0);
        x.assign(0);
        check.refused("share(0) of 0", BY_ZERO, () -> x.share(0));
        check.refused("share(1) of 0", BY_ZERO, () -> x.share(1));
        check.refused("share(2), not planned", STATE, () -> x.share(2));
        check.refused("share(3), which there is not", MISSING, () -> x.share(3));
        x.cost(1, 1, 1);
        check.due("share(0) of 1", x.share(0), 0);
        check.due("share(1) of 1", x.share(1), 100);
        x.put(1);
        check.refused("share(0) of 0 again", BY_ZERO, () -> x.share(0));
        check.refused("share(1), done", STATE, () -> x.share(1));
        check.due("the plan stays", x.at(0), 0);
    }

    /** Units at places of these zones, each unit of a size at its own place. */
    private static PutAwayAssign inZones(int[] zones, int[] sizes) {
        PutAwayAssign x = new PutAwayAssign();
        for (int u = 0; u < zones.length; u++) {
            x.unit(0, sizes[u]);
            x.place(1, zones[u], sizes[u], 0);
            x.fix(u, u);
        }
        x.assign(0);
        return x;
    }

    private static void promise19NumbersOfTrips() {
        check.sentence("Promise 19", "The trip with which a planned unit goes (0, 1, ..)");
        PutAwayAssign x = inZones(new int[] {3, 3, 3, 1, 1, 1, 3, 3, 3, 1, 1, 1},
                new int[] {2, 2, 2, 2, 2, 2, 2, 2, 2, 2, 2, 2});
        check.due("no trip to zones 0 and 2", Made.trips(x), "1 1 1 0 0 0 1 1 1 0 0 0");
        x.limits(6, 3);
        check.due("each with a trip of its own", Made.trips(x), "6 7 8 0 1 2 9 10 11 3 4 5");
        check.due("each asked again", Made.trips(x), "6 7 8 0 1 2 9 10 11 3 4 5");
    }

    private static void promise19ByZonesThenByNumber() {
        check.sentence("Promise 19", "planned units by the zones of their places, then by number");
        PutAwayAssign x = inZones(new int[] {3, 0, 3, 1, 0, 3}, new int[] {60, 10, 60, 10, 10, 40});
        check.due("zones 0, 1 and 3", Made.trips(x), "2 0 3 1 0 3");
        x.fits(0, 0, false);
        check.due("planned, if rules allow it or not", Made.trips(x), "2 0 3 1 0 3");
        x.put(3);
        check.due("none goes to zone 1", Made.trips(x), "1 0 2 -1 0 2");
        PutAwayAssign y = Made.with(3, 0, 0);
        y.place(1, 1, 20, 0);
        y.place(1, 0, 20, 0);
        y.together(0, 2);
        y.assign(1000);
        check.due("a group goes by its place", Made.trips(y), "1 0 1");
        y.limits(6, 10);
        check.due("a group goes in two trips", Made.trips(y), "1 0 2");
    }

    private static void promise19TheSameZone() {
        check.sentence("Promise 19", "one goes with the trip of the one before if that is to the same zone");
        PutAwayAssign x = inZones(new int[] {0, 1, 2, 3}, new int[] {1, 1, 1, 1});
        check.due("each zone has a trip of its own", Made.trips(x), "0 1 2 3");
        PutAwayAssign y = inZones(new int[] {3, 2, 1, 0}, new int[] {1, 1, 1, 1});
        check.due("the other way round", Made.trips(y), "3 2 1 0");
        PutAwayAssign z = inZones(new int[] {2, 2, 2, 2}, new int[] {1, 1, 1, 1});
        check.due("one zone alone", Made.trips(z), "0 0 0 0");
    }

    private static void promise19RoomInTheCart() {
        check.sentence("Promise 19", "and the cart has room for it, else with the next trip");
        int[] sizes = {30, 70, 1, 100, 20, 60, 50, 40};
        PutAwayAssign x = inZones(new int[sizes.length], sizes);
        check.due("carts of 100", Made.trips(x), "0 0 1 2 3 3 4 4");
        x.limits(6, 99);
        check.due("carts of 99", Made.trips(x), "0 1 1 2 3 3 4 4");
        x.limits(6, 101);
        check.due("carts of 101", Made.trips(x), "0 0 0 1 2 2 3 3");
        x.limits(6, 50);
        check.due("carts of 50, too small for some", Made.trips(x), "0 1 2 3 4 5 6 7");
        x.limits(6, 371);
        check.due("carts of 371, just for all", Made.trips(x), "0 0 0 0 0 0 0 0");
        x.limits(6, 370);
        check.due("carts of 370", Made.trips(x), "0 0 0 0 0 0 0 1");
        PutAwayAssign y = inZones(new int[] {0, 0, 0}, new int[] {60, 60, 40});
        check.due("with the trip of the one before alone", Made.trips(y), "0 1 1");
        PutAwayAssign z = inZones(new int[] {0, 1, 1}, new int[] {60, 60, 40});
        check.due("each zone begins with an empty cart", Made.trips(z), "0 1 1");
    }

    private static void promise19NotPlannedOrDone() {
        check.sentence("Promise 19", "-1 if it is not planned, or done.");
        PutAwayAssign x = Made.with(3, 2, 0);
        check.due("nothing was planned", Made.trips(x), "-1 -1 -1");
        x.assign(1000);
        x.limits(6, 10);
        check.due("no place for the last", Made.trips(x), "0 1 -1");
        x.put(0);
        check.due("the first is done, and the second goes first", Made.trips(x), "-1 0 -1");
        x.fits(1, 0, false);
        x.block(1);
        check.due("the second is planned no more", Made.trips(x), "-1 -1 -1");
    }

    private static void promise19NoSuchUnit() {
        check.sentence("Promise 19", "NoSuchElementException.");
        PutAwayAssign x = Made.with(2, 3, 0);
        x.assign(1000);
        int[] missing = {-1, 2, 12, Integer.MIN_VALUE, Integer.MAX_VALUE};
        for (int unit : missing) {
            check.refused("trip(" + unit + ")", MISSING, () -> x.trip(unit));
        }
    }

    private static void promise20Told() {
        check.sentence("Promise 20", "Of a place 0 its free room, 1 its zone, 2 whether it is blocked, 3 the number of"
                + " the group that is planned for it");
        PutAwayAssign x = new PutAwayAssign();
        x.place(255, 3, 70, 9);
        x.place(255, 2, 80, 9);
        x.unit(0, 20);
        x.unit(0, 30);
        x.unit(0, 10);
        x.together(1, 2);
        x.fits(0, 0, false);
        x.fits(1, 1, false);
        x.assign(1000);
        check.due("free room, nothing is taken by a plan", x.told(0, 0), 70);
        check.due("zone", x.told(0, 1), 3);
        check.due("not blocked", x.told(0, 2), 0);
        check.due("the group's number", x.told(0, 3), 1);
        check.due("the group 0", x.told(1, 3), 0);
        x.put(2);
        check.due("free room behind put", x.told(0, 0), 30);
        x.block(0);
        check.due("blocked", x.told(0, 2), 1);
        check.due("the other is not", x.told(1, 2), 0);
        check.due("free room of a blocked place", x.told(0, 0), 30);
    }

    private static void promise20NoGroup() {
        check.sentence("Promise 20", "(-1)");
        PutAwayAssign x = Made.with(2, 2, 0);
        check.due("nothing was planned", x.told(0, 3), -1);
        x.fits(1, 1, false);
        x.fits(0, 1, false);
        x.assign(1000);
        check.due("no group for it", x.told(1, 3), -1);
        check.due("group 0", x.told(0, 3), 0);
        x.put(0);
        check.due("the group is done", x.told(0, 3), -1);
        x.assign(1000);
        check.due("group 1", x.told(0, 3), 1);
        x.block(0);
        check.due("blocked", x.told(0, 3), -1);
    }

    private static void promise20OutsideItsRange() {
        check.sentence("Promise 20", "NoSuchElementException, IllegalArgumentException.");
        PutAwayAssign x = Made.with(2, 1, 0);
        int[] wrong = {-1, 4, Integer.MIN_VALUE, Integer.MAX_VALUE};
        for (int what : wrong) {
            check.refused("told(0, " + what + ")", ARGUMENT, () -> x.told(0, what));
            check.refused("told(1, " + what + ")", MISSING, () -> x.told(1, what));
            check.refused("told(-1, " + what + ")", MISSING, () -> x.told(-1, what));
        }
        for (int what = 0; what <= 3; what++) {
            int right = what;
            check.refused("told(1, " + what + ")", MISSING, () -> x.told(1, right));
        }
    }

    private static void promise21Count() {
        check.sentence("Promise 21", "0 units, 1 places, 2 groups, 3 units that are done");
        PutAwayAssign x = Made.with(5, 2, 0);
        x.together(3, 1);
        check.due("units", x.count(0), 5);
        check.due("places", x.count(1), 2);
        check.due("groups", x.count(2), 4);
        check.due("done", x.count(3), 0);
        x.assign(1000);
        x.put(3);
        check.due("units behind put", x.count(0), 5);
        check.due("places behind put", x.count(1), 2);
        check.due("groups behind put", x.count(2), 3);
        check.due("done behind put", x.count(3), 2);
        PutAwayAssign y = Made.with(12, 12, 0);
        check.due("twelve units", y.count(0), 12);
        check.due("twelve places", y.count(1), 12);
        check.due("twelve groups", y.count(2), 12);
        y.assign(10000);
        for (int u = 0; u < 12; u++) {
            y.put(u);
        }
        check.due("no groups", y.count(2), 0);
        check.due("twelve done", y.count(3), 12);
    }

    private static void promise21AnotherWhat() {
        check.sentence("Promise 21", "-1 for another what");
        PutAwayAssign x = Made.with(2, 3, 0);
        int[] other = {-1, 4, 5, Integer.MIN_VALUE, Integer.MAX_VALUE};
        for (int what : other) {
            check.due("count(" + what + ")", x.count(what), -1);
        }
    }
}
