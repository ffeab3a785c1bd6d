/** Terms: kinds, units, places and groups, the rules and the cost. */
public final class TermsTest {
    private static final Check check = new Check("TermsTest");
    private static final Class<IllegalArgumentException> ARGUMENT = IllegalArgumentException.class;
    private static final Class<UnsupportedOperationException> NO_ROOM = UnsupportedOperationException.class;
    private static final int[] FAR = {Integer.MIN_VALUE, -1000000, 1000000, Integer.MAX_VALUE};

    public static void main(String[] args) {
        kinds();
        atMostTwelveUnits();
        unitsAsTheyCome();
        sizes();
        atMostTwelvePlaces();
        kindsAsBits();
        zones();
        freeRoom();
        ways();
        unitsTogetherAndSoOn();
        leastNumber();
        sumOfSizes();
        greatestWeight();
        weightsAtFirst();
        orderOfGroups();
        doneUnitsAreInNoGroup();
        rulesByRank();
        rule1();
        rule2();
        rule3();
        rule4();
        rule5();
        rule5DifferentOnes();
        costTold();
        costWorkedOut();
        check.end();
    }

    private static void kinds() {
        check.sentence("Terms", "KINDS are 0 .. 7.");
        PutAwayAssign x = new PutAwayAssign();
        int[] wrong = {-1, 8, 32, 39};
        for (int kind : wrong) {
            check.refused("unit(" + kind + ", 1)", ARGUMENT, () -> x.unit(kind, 1));
            check.refused("weight(" + kind + ", 1)", ARGUMENT, () -> x.weight(kind, 1));
        }
        for (int kind : FAR) {
            check.refused("unit(" + kind + ", 1)", ARGUMENT, () -> x.unit(kind, 1));
            check.refused("weight(" + kind + ", 1)", ARGUMENT, () -> x.weight(kind, 1));
        }
        for (int kind = 0; kind <= 7; kind++) {
            int right = kind;
            check.taken("unit(" + kind + ", 1)", () -> x.unit(right, 1));
            check.taken("weight(" + kind + ", 1)", () -> x.weight(right, 1));
        }
    }

    private static void atMostTwelveUnits() {
        check.sentence("Terms", "UNITS 0, 1, .. (at most 12, as they come)");
        PutAwayAssign x = Made.with(11, 0, 0);
        check.due("the twelfth unit", x.unit(0, 1), 11);
        check.refused("the thirteenth unit", NO_ROOM, () -> x.unit(0, 1));
        check.due("units", x.count(0), 12);
    }

    private static void unitsAsTheyCome() {
        check.sentence("Terms", "UNITS 0, 1, .. (at most 12, as they come)");
        PutAwayAssign x = Made.with(0, 12, 0);
        for (int u = 0; u < 12; u++) {
            check.due("the number of a unit, all before being done", x.unit(0, 1), u);
            x.assign(1000);
            x.put(u);
        }
        check.refused("the thirteenth unit, all before being done", NO_ROOM, () -> x.unit(0, 1));
    }

    private static void sizes() {
        check.sentence("Terms", "a kind and a size 1 .. 100");
        PutAwayAssign x = new PutAwayAssign();
        int[] wrong = {0, -1, 101};
        for (int size : wrong) {
            check.refused("unit(0, " + size + ")", ARGUMENT, () -> x.unit(0, size));
        }
        for (int size : FAR) {
            check.refused("unit(0, " + size + ")", ARGUMENT, () -> x.unit(0, size));
        }
        check.due("unit(0, 1)", x.unit(0, 1), 0);
        check.due("unit(0, 100)", x.unit(0, 100), 1);
    }

    private static void atMostTwelvePlaces() {
        check.sentence("Terms", "PLACES 0, 1, .. (at most 12)");
        PutAwayAssign x = new PutAwayAssign();
        for (int p = 0; p < 12; p++) {
            check.due("the number of a place", x.place(1, 0, 1, 1), p);
        }
        x.block(0);
        check.refused("the thirteenth place", NO_ROOM, () -> x.place(1, 0, 1, 1));
        check.due("places", x.count(1), 12);
    }

    private static void kindsAsBits() {
        check.sentence("Terms", "which kinds fit (as bits)");
        for (int fitting = 0; fitting <= 7; fitting++) {
            PutAwayAssign one = new PutAwayAssign();
            PutAwayAssign others = new PutAwayAssign();
            one.place(1 << fitting, 0, 1, 1);
            others.place(255 - (1 << fitting), 0, 1, 1);
            for (int kind = 0; kind <= 7; kind++) {
                one.unit(kind, 1);
                others.unit(kind, 1);
                check.due("kind " + kind + " where " + fitting + " fits", one.barred(kind), kind == fitting ? 0 : 2);
                check.due("kind " + kind + " where all but " + fitting + " fit", others.barred(kind),
                        kind == fitting ? 2 : 0);
            }
        }
    }

    private static void zones() {
        check.sentence("Terms", "a zone 0 .. 3");
        PutAwayAssign x = new PutAwayAssign();
        check.refused("place(1, -1, 1, 1)", ARGUMENT, () -> x.place(1, -1, 1, 1));
        check.refused("place(1, 4, 1, 1)", ARGUMENT, () -> x.place(1, 4, 1, 1));
        for (int zone : FAR) {
            check.refused("place(1, " + zone + ", 1, 1)", ARGUMENT, () -> x.place(1, zone, 1, 1));
        }
        for (int zone = 0; zone <= 3; zone++) {
            check.due("a place in zone " + zone, x.place(1, zone, 1, 1), zone);
            check.due("its zone", x.told(zone, 1), zone);
        }
    }

    private static void freeRoom() {
        check.sentence("Terms", "FREE room 0 .. 1000");
        PutAwayAssign x = new PutAwayAssign();
        check.refused("place(1, 0, -1, 1)", ARGUMENT, () -> x.place(1, 0, -1, 1));
        check.refused("place(1, 0, 1001, 1)", ARGUMENT, () -> x.place(1, 0, 1001, 1));
        for (int free : FAR) {
            check.refused("place(1, 0, " + free + ", 1)", ARGUMENT, () -> x.place(1, 0, free, 1));
        }
        check.due("place(1, 0, 0, 1)", x.place(1, 0, 0, 1), 0);
        check.due("its free room", x.told(0, 0), 0);
        check.due("place(1, 0, 1000, 1)", x.place(1, 0, 1000, 1), 1);
        check.due("its free room", x.told(1, 0), 1000);
    }

    private static void ways() {
        check.sentence("Terms", "a WAY of seconds 0 .. 1000");
        PutAwayAssign x = new PutAwayAssign();
        check.refused("place(1, 0, 1, -1)", ARGUMENT, () -> x.place(1, 0, 1, -1));
        check.refused("place(1, 0, 1, 1001)", ARGUMENT, () -> x.place(1, 0, 1, 1001));
        for (int way : FAR) {
            check.refused("place(1, 0, 1, " + way + ")", ARGUMENT, () -> x.place(1, 0, 1, way));
        }
        x.unit(0, 1);
        check.due("place(1, 0, 1, 1000)", x.place(1, 0, 1, 1000), 0);
        check.due("bound() of its way", x.bound(), 1000);
        check.due("place(1, 0, 1, 0)", x.place(1, 0, 1, 0), 1);
        check.due("bound() of no way", x.bound(), 0);
    }

    private static void unitsTogetherAndSoOn() {
        check.sentence("Terms", "GROUPS: units that are told to be together are one, and so on");
        PutAwayAssign x = Made.with(12, 1, 0);
        x.place(1, 0, 120, 0);
        check.due("groups of units alone", x.count(2), 12);
        for (int u = 0; u < 11; u++) {
            x.together(u, u + 1);
        }
        check.due("groups of all units", x.count(2), 1);
        x.assign(1000);
        check.due("the plan of all units", Made.plan(x), "1 1 1 1 1 1 1 1 1 1 1 1");
    }

    private static void leastNumber() {
        check.sentence("Terms", "a group has the least number of its units");
        PutAwayAssign x = Made.with(5, 5, 1);
        x.together(4, 3);
        x.together(3, 1);
        x.assign(1000);
        check.due("the group of 1, 3 and 4", x.told(x.at(4), 3), 1);
        x.together(4, 0);
        x.assign(1000);
        check.due("the group of 0, 1, 3 and 4", x.told(x.at(3), 3), 0);
    }

    private static void sumOfSizes() {
        check.sentence("Terms", "the sum of their sizes");
        PutAwayAssign x = new PutAwayAssign();
        x.place(1, 0, 1000, 0);
        x.unit(0, 100);
        for (int u = 1; u < 12; u++) {
            x.unit(0, 100);
            x.together(0, u);
            check.due("barred(0) with " + (u + 1) + " of size 100", x.barred(0), u < 10 ? 0 : 4);
        }
        PutAwayAssign y = Made.with(3, 1, 0);
        y.together(0, 2);
        y.fits(1, 0, false);
        check.due("the room that 20 leave", y.assign(1000), 80);
    }

    private static void greatestWeight() {
        check.sentence("Terms", "the greatest of their kinds' WEIGHTS");
        PutAwayAssign x = new PutAwayAssign();
        x.place(255, 0, 3, 1000);
        for (int kind = 0; kind < 3; kind++) {
            x.unit(kind, 1);
            x.weight(kind, 2);
        }
        x.together(0, 1);
        x.together(1, 2);
        check.due("bound() of 2, 2, 2", x.bound(), 2000);
        for (int kind = 0; kind < 3; kind++) {
            x.weight(kind, 100);
            check.due("bound() of 100 for " + kind, x.bound(), 100000);
            x.weight(kind, 0);
            check.due("bound() of 0 for " + kind, x.bound(), kind < 2 ? 2000 : 0);
        }
        x.weight(7, 100);
        check.due("bound() with a weight of another kind", x.bound(), 0);
    }

    private static void weightsAtFirst() {
        check.sentence("Terms", "(1 at first)");
        for (int kind = 0; kind <= 7; kind++) {
            PutAwayAssign x = new PutAwayAssign();
            x.unit(kind, 1);
            x.place(255, 0, 1, 1000);
            check.due("bound() for kind " + kind, x.bound(), 1000);
        }
    }

    private static void orderOfGroups() {
        check.sentence("Terms", "Groups are in the order of their numbers.");
        PutAwayAssign x = Made.with(4, 3, 1);
        x.limits(0, 100);
        x.together(3, 0);
        x.assign(1000);
        check.due("the group of 0 and 3 is first", Made.plan(x), "0 1 2 0");
        PutAwayAssign y = Made.with(4, 1, 0);
        y.together(2, 3);
        y.together(0, 1);
        y.assign(1000);
        check.due("the group told last is first", Made.plan(y), "0 0 -1 -1");
    }

    private static void doneUnitsAreInNoGroup() {
        check.sentence("Terms", "A unit that is DONE is in no group any more.");
        PutAwayAssign x = Made.with(3, 1, 0);
        x.together(0, 2);
        x.assign(1000);
        x.put(2);
        check.due("groups behind put", x.count(2), 1);
        check.due("the group planned for the place", x.told(0, 3), -1);
        check.due("bound() of 1 alone, in 80 that are free", x.bound(), 70);
        check.due("assign() of 1 alone", x.assign(1000), 70);
        check.due("all at place 0", Made.plan(x), "0 0 0");
        check.due("the group planned for the place is 1", x.told(0, 3), 1);
    }

    /** One place that breaks any of the rules, and one that is blocked, so that the first rule leaves the other. */
    private static void rulesByRank() {
        check.sentence("Terms", "RULES for a group at a place, by rank");
        for (int broken = 0; broken < 32; broken++) {
            PutAwayAssign x = new PutAwayAssign();
            x.unit((broken & 2) != 0 ? 1 : 0, (broken & 8) != 0 ? 11 : 10);
            x.place(1, 0, 10, 0);
            x.place(1, 0, 10, 0);
            x.block(1);
            if ((broken & 1) != 0) {
                x.block(0);
            }
            x.fits(0, 0, (broken & 4) == 0);
            x.fix(0, (broken & 16) != 0 ? 1 : 0);
            int first = broken == 0 ? 0 : Integer.numberOfTrailingZeros(broken) + 1;
            check.due("barred(0) by rules " + Integer.toBinaryString(broken), x.barred(0), first);
            x.assign(1000);
            check.due("at(0) by rules " + Integer.toBinaryString(broken), x.at(0), broken == 0 ? 0 : -1);
        }
    }

    private static void rule1() {
        check.sentence("Terms", "1 the place is not blocked");
        PutAwayAssign x = Made.with(1, 2, 1);
        x.block(0);
        x.assign(1000);
        check.due("at(0), not where it is blocked", x.at(0), 1);
        x.block(1);
        check.due("barred(0), all blocked", x.barred(0), 1);
        x.assign(1000);
        check.due("at(0), all blocked", x.at(0), -1);
        x.open(1);
        check.due("barred(0), one open", x.barred(0), 0);
    }

    private static void rule2() {
        check.sentence("Terms", "2 the kinds of all its units fit");
        PutAwayAssign x = new PutAwayAssign();
        x.place(6, 0, 100, 0);
        x.unit(1, 1);
        x.unit(2, 1);
        x.together(0, 1);
        check.due("barred(0), both fit", x.barred(0), 0);
        x.unit(0, 1);
        x.unit(3, 1);
        check.due("barred(2), the bit below is not set", x.barred(2), 2);
        check.due("barred(3), the bit above is not set", x.barred(3), 2);
        x.together(3, 0);
        check.due("barred(0), one of three does not fit", x.barred(0), 2);
        x.place(0, 0, 100, 0);
        check.due("barred(0), nothing fits at the other", x.barred(0), 2);
        x.place(14, 0, 100, 0);
        x.assign(1000);
        check.due("where all three fit", Made.plan(x), "2 2 -1 2");
    }

    private static void rule3() {
        check.sentence("Terms", "3 no unit of it was told not to stand there");
        PutAwayAssign x = Made.with(4, 12, 1);
        x.together(0, 1);
        x.together(1, 2);
        for (int u = 0; u < 3; u++) {
            x.fits(u, u, false);
        }
        x.fits(3, 3, false);
        x.assign(1000);
        check.due("behind the places that one of them was told", Made.plan(x), "3 3 3 0");
        Made.onlyAt(x, 1, 11);
        check.due("barred(0), the last place left", x.barred(0), 0);
        x.fits(2, 11, false);
        check.due("barred(0), no place left", x.barred(0), 3);
    }

    private static void rule4() {
        check.sentence("Terms", "4 its size is not above the free room");
        PutAwayAssign x = new PutAwayAssign();
        x.unit(0, 50);
        x.unit(0, 50);
        x.place(1, 0, 49, 0);
        check.due("barred(0), one above the free room", x.barred(0), 4);
        x.place(1, 0, 50, 0);
        check.due("barred(0), as much as the free room", x.barred(0), 0);
        x.together(0, 1);
        x.place(1, 0, 99, 0);
        check.due("barred(0), together one above", x.barred(0), 4);
        x.place(1, 0, 100, 0);
        x.assign(1000);
        check.due("together as much as the free room", Made.plan(x), "3 3");
        x.put(0);
        x.unit(0, 1);
        x.fix(2, 3);
        check.due("barred(2) where no room is left", x.barred(2), 5);
        x.assign(1000);
        check.due("at(2) where no room is left", x.at(2), -1);
    }

    private static void rule5() {
        check.sentence("Terms", "5 if one of its units is told a FIXED place, it is this one");
        PutAwayAssign x = Made.with(4, 3, 1);
        x.together(0, 2);
        x.together(2, 3);
        x.fix(2, 2);
        x.assign(1000);
        check.due("the place of the one in the middle", Made.plan(x), "2 0 2 2");
        x.fix(3, 2);
        check.due("barred(0), two told the same", x.barred(0), 0);
        x.block(2);
        check.due("barred(0), its place is blocked", x.barred(0), 5);
        x.fix(2, -1);
        x.fix(3, 0);
        x.assign(1000);
        check.due("place 0 is told too", Made.plan(x), "0 1 0 0");
    }

    private static void rule5DifferentOnes() {
        check.sentence("Terms", "(units told different ones: none is)");
        PutAwayAssign x = Made.with(3, 3, 1);
        x.together(0, 1);
        x.together(1, 2);
        x.fix(0, 0);
        x.fix(1, 1);
        check.due("barred(0), two told different ones", x.barred(0), 5);
        x.fix(2, 0);
        check.due("barred(0), the third as the first", x.barred(0), 5);
        x.fix(2, 1);
        check.due("barred(0), the third as the second", x.barred(0), 5);
        check.due("assign() with a place for none", x.assign(1000), 0);
        check.due("no place for any", Made.plan(x), "-1 -1 -1");
        x.fix(0, 1);
        check.due("barred(0), all the same", x.barred(0), 0);
    }

    private static void costTold() {
        check.sentence("Terms", "if one was told for the unit with its number and this place, that");
        PutAwayAssign x = Made.with(3, 1, 0);
        x.fits(0, 0, false);
        x.together(1, 2);
        x.cost(2, 0, 3);
        check.due("told for 2 in the group of 1", x.assign(1000), 80);
        x.cost(0, 0, 4);
        check.due("told for 0 that is not in it", x.assign(1000), 80);
        x.cost(1, 0, 0);
        check.due("told for 1 as 0", x.assign(1000), 0);
        x.place(1, 0, 30, 0);
        x.fix(1, 1);
        check.due("told for another place", x.assign(1000), 10);
        x.cost(1, 1, 11);
        check.due("told for this place", x.assign(1000), 11);
        x.together(0, 1);
        check.due("the number is 0 now", x.assign(1000), 0);
        check.due("the number is 0 now, at", Made.plan(x), "1 1 1");
        x.cost(0, 1, 1000000);
        check.due("the most, told for 0", x.assign(1000000), 1000000);
    }

    private static void costWorkedOut() {
        check.sentence("Terms", "else the way times the weight, and the free room less the size");
        PutAwayAssign most = new PutAwayAssign();
        most.unit(0, 1);
        most.weight(0, 100);
        most.place(1, 0, 1000, 1000);
        check.due("the most", most.assign(100999), 100999);
        most.weight(0, 0);
        check.due("no weight", most.assign(100999), 999);
        PutAwayAssign least = new PutAwayAssign();
        least.unit(0, 100);
        least.weight(0, 100);
        least.place(1, 0, 100, 0);
        check.due("no way and no room left", least.assign(0), 0);
        least.place(1, 0, 101, 0);
        least.fix(0, 1);
        check.due("room of 1 left", least.assign(1), 1);
        PutAwayAssign some = Made.with(2, 1, 0);
        some.assign(1000);
        some.put(0);
        check.due("as much as is free now", some.assign(1000), 80);
    }
}
