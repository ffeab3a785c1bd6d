import java.util.NoSuchElementException;

/** Promises 5, 7, 8 and 14: groups, and the rules that bar them from places. */
public final class RulesTest {
    private static final Check check = new Check("RulesTest");
    private static final Class<IllegalStateException> STATE = IllegalStateException.class;
    private static final Class<NoSuchElementException> MISSING = NoSuchElementException.class;

    public static void main(String[] args) {
        promise5Fits();
        promise7Together();
        promise7GroupsHaveTheLeastNumber();
        promise8Fix();
        promise14EachRule();
        promise14RulesByRank();
        check.end();
    }

    private static void promise5Fits() {
        PutAwayAssign x = Made.with(2, 2, 1);
        x.assign(1000);
        check.due("at(0) at first", x.at(0), 0);
        x.fits(0, 0, false);
        check.due("at(0) is still planned", x.at(0), 0);
        x.assign(1000);
        check.due("at(0) not there", x.at(0), 1);
        check.due("at(1) may be there", x.at(1), 0);
        x.fits(0, 1, false);
        check.due("barred(0) from both", x.barred(0), 3);
        x.fits(0, 1, false);
        x.fits(0, 1, true);
        check.due("barred(0) from one", x.barred(0), 0);
        x.fits(0, 0, true);
        x.assign(1000);
        check.due("at(0) as at first", x.at(0), 0);
        x.put(0);
        x.fits(0, 0, false);
        check.due("at(0), done", x.at(0), 0);
        check.refused("fits(2, 0)", MISSING, () -> x.fits(2, 0, true));
        check.refused("fits(-1, 0)", MISSING, () -> x.fits(-1, 0, true));
        check.refused("fits(0, 2)", MISSING, () -> x.fits(0, 2, false));
        check.refused("fits(0, -1)", MISSING, () -> x.fits(0, -1, false));
        check.refused("fits at the ends", MISSING, () -> x.fits(Integer.MIN_VALUE, Integer.MAX_VALUE, false));
    }

    private static void promise7Together() {
        PutAwayAssign x = Made.with(6, 6, 1);
        x.assign(10000);
        check.due("together(4, 2)", x.together(4, 2), 2);
        check.due("at(4), not planned", x.at(4), -1);
        check.due("at(2), not planned", x.at(2), -1);
        check.due("at(3), still planned", x.at(3), 3);
        check.due("together(1, 3)", x.together(1, 3), 2);
        x.assign(10000);
        check.due("at(4) with 2", x.at(4), x.at(2));
        check.due("together(3, 4) joins all", x.together(3, 4), 4);
        for (int u = 1; u <= 4; u++) {
            check.due("at(" + u + "), joined", x.at(u), -1);
        }
        check.due("groups", x.count(2), 3);
        check.refused("together(1, 2) again", STATE, () -> x.together(1, 2));
        check.refused("together(5, 5)", STATE, () -> x.together(5, 5));
        check.refused("together(5, 6)", MISSING, () -> x.together(5, 6));
        check.refused("together(6, 5)", MISSING, () -> x.together(6, 5));
        check.refused("together(-1, -1)", MISSING, () -> x.together(-1, -1));
        x.assign(10000);
        x.put(0);
        check.refused("together(0, 5), done", STATE, () -> x.together(0, 5));
        check.refused("together(5, 0), done", STATE, () -> x.together(5, 0));
        check.refused("together(0, 0), done", STATE, () -> x.together(0, 0));
        check.due("at(5), refused", x.at(5) >= 0, true);
        check.due("together(5, 1)", x.together(5, 1), 5);
    }

    private static void promise7GroupsHaveTheLeastNumber() {
        PutAwayAssign x = Made.with(4, 2, 1);
        x.together(3, 1);
        x.assign(10000);
        check.due("told(0, 3) of 0", x.told(0, 3), 0);
        check.due("told(1, 3) of 1 and 3", x.told(1, 3), 1);
        check.due("at(2) behind", x.at(2), -1);
        x.together(2, 3);
        x.cost(3, 0, 0);
        x.cost(2, 0, 0);
        check.due("bound() by sizes of 10 and 30", x.bound(), 90 + 70);
        x.cost(1, 0, 5);
        check.due("bound() by the cost told for 1", x.bound(), 90 + 5);
    }

    private static void promise8Fix() {
        PutAwayAssign x = Made.with(3, 3, 1);
        x.fix(0, 2);
        x.assign(1000);
        check.due("at(0), fixed", x.at(0), 2);
        x.fix(0, 1);
        check.due("at(0), still planned", x.at(0), 2);
        x.assign(1000);
        check.due("at(0), fixed anew", x.at(0), 1);
        x.fix(0, -1);
        x.assign(1000);
        check.due("at(0), free again", x.at(0), 0);
        x.together(0, 1);
        x.fix(1, 2);
        x.assign(1000);
        check.due("at(0), fixed by 1", x.at(0), 2);
        x.fix(0, 2);
        check.due("barred(0), both the same", x.barred(0), 0);
        x.fix(0, 1);
        check.due("barred(0), different ones", x.barred(0), 5);
        x.together(1, 2);
        x.fix(2, 1);
        check.due("barred(0), two of three the same", x.barred(0), 5);
        x.fix(1, -1);
        check.due("barred(0), one and the same", x.barred(0), 0);
        check.refused("fix(3, 0)", MISSING, () -> x.fix(3, 0));
        check.refused("fix(-1, 0)", MISSING, () -> x.fix(-1, 0));
        check.refused("fix(0, 3)", MISSING, () -> x.fix(0, 3));
        check.refused("fix(0, -2)", MISSING, () -> x.fix(0, -2));
        check.refused("fix(3, -1)", MISSING, () -> x.fix(3, -1));
        x.assign(1000);
        x.put(0);
        check.refused("fix(0, 0), done", STATE, () -> x.fix(0, 0));
        check.refused("fix(0, -1), done", STATE, () -> x.fix(0, -1));
        check.refused("fix(0, 3), done and missing", MISSING, () -> x.fix(0, 3));
    }

    private static void promise14EachRule() {
        PutAwayAssign x = new PutAwayAssign();
        x.unit(2, 10);
        check.due("barred(0) without places", x.barred(0), 1);
        x.place(4, 0, 10, 0);
        check.due("barred(0) by none", x.barred(0), 0);
        x.block(0);
        check.due("barred(0), blocked", x.barred(0), 1);
        x.open(0);
        x.unit(3, 1);
        check.due("barred(1), its kind", x.barred(1), 2);
        x.unit(2, 11);
        check.due("barred(2), its size", x.barred(2), 4);
        x.fits(0, 0, false);
        check.due("barred(0), told not to", x.barred(0), 3);
        x.fits(0, 0, true);
        x.place(0, 0, 0, 0);
        x.fix(0, 1);
        check.due("barred(0), fixed elsewhere", x.barred(0), 5);
        x.fix(0, -1);
        x.together(0, 1);
        check.due("barred(0), the kind of 1", x.barred(0), 2);
        check.refused("barred(3)", MISSING, () -> x.barred(3));
        check.refused("barred(-1)", MISSING, () -> x.barred(-1));
        x.unit(2, 1);
        x.assign(1000);
        x.put(3);
        check.refused("barred(3), done", STATE, () -> x.barred(3));
    }

    private static void promise14RulesByRank() {
        PutAwayAssign x = new PutAwayAssign();
        x.unit(0, 10);
        x.place(1, 0, 10, 0);
        x.place(1, 0, 10, 0);
        x.place(0, 0, 10, 0);
        x.place(1, 0, 9, 0);
        x.fix(0, 2);
        check.due("barred(0), two left for rule 5", x.barred(0), 5);
        x.fits(0, 0, false);
        check.due("barred(0), one left for rule 5", x.barred(0), 5);
        x.block(1);
        check.due("barred(0), one left for rule 4", x.barred(0), 4);
        x.fits(0, 3, false);
        check.due("barred(0), two left for rule 3", x.barred(0), 3);
        x.block(0);
        x.block(3);
        check.due("barred(0), one left for rule 2", x.barred(0), 2);
        x.block(2);
        check.due("barred(0), none left", x.barred(0), 1);
    }
}
