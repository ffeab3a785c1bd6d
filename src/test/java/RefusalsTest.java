import java.util.NoSuchElementException;
import java.util.function.Consumer;
import java.util.function.Supplier;

/** Terms: refusals, the first that holds, and that a refused call changes nothing; and an object's 512 calls. */
public final class RefusalsTest {
    private static final Check check = new Check("RefusalsTest");
    private static final Class<IllegalArgumentException> ARGUMENT = IllegalArgumentException.class;
    private static final Class<IllegalStateException> STATE = IllegalStateException.class;
    private static final Class<NoSuchElementException> MISSING = NoSuchElementException.class;
    private static final Class<UnsupportedOperationException> NO_ROOM = UnsupportedOperationException.class;
    private static final Class<ArithmeticException> BY_ZERO = ArithmeticException.class;

    public static void main(String[] args) {
        noSuchUnit();
        noSuchPlace();
        noSuchUnitOrPlaceBeforeANumber();
        noSuchUnitOrPlaceBeforeTheState();
        anotherNumber();
        aNumberBeforeNoRoom();
        notAsItIsNow();
        theStateBeforeASumOfZero();
        noRoom();
        as512CallsSay();
        check.end();
    }

    /**
     * Unit 0 is done, 1 and 3 are together and planned, 2 is planned alone, 4 has no place; place 3 is blocked.
     * What is told is chosen so that each number of it shows in a plan.
     */
    private static PutAwayAssign busy() {
        PutAwayAssign x = new PutAwayAssign();
        for (int u = 0; u < 5; u++) {
            x.unit(u % 2, 10 + u);
        }
        for (int p = 0; p < 4; p++) {
            x.place(3, p % 2, 50 + 10 * p, 3 * p);
        }
        x.limits(3, 20);
        x.weight(1, 4);
        x.together(1, 3);
        x.fix(0, 0);
        x.fits(2, 2, false);
        x.cost(1, 2, 7);
        x.fix(1, 2);
        x.cost(4, 3, 2);
        x.block(3);
        x.assign(1000);
        x.put(0);
        Made.onlyAt(x, 4, 3);
        return x;
    }

    /** Full of units and places, with all of them planned at no cost but for the first, which is done. */
    private static PutAwayAssign full() {
        PutAwayAssign x = new PutAwayAssign();
        for (int u = 0; u < 12; u++) {
            x.unit(u % 8, 10);
            x.place(255, u % 4, 10, 0);
        }
        x.assign(0);
        x.put(0);
        return x;
    }

    /** The call is refused so, and the object tells and plans behind it what an untouched one does. */
    private static void refused(String call, Class<? extends RuntimeException> want, Supplier<PutAwayAssign> made,
            Consumer<PutAwayAssign> asked) {
        PutAwayAssign touched = made.get();
        PutAwayAssign untouched = made.get();
        check.refused(call, want, () -> asked.accept(touched));
        check.due(call + ", all stays", Seen.of(touched), Seen.of(untouched));
        touched.assign(Integer.MAX_VALUE);
        untouched.assign(Integer.MAX_VALUE);
        check.due(call + ", planned anew", Seen.of(touched), Seen.of(untouched));
    }

    private static void inAll(String call, Class<? extends RuntimeException> want, Consumer<PutAwayAssign> asked) {
        refused(call + ", new", want, PutAwayAssign::new, asked);
        refused(call + ", busy", want, RefusalsTest::busy, asked);
        refused(call + ", full", want, RefusalsTest::full, asked);
    }

    private static final int[] NEVER = {-1, 12, 13, 32, Integer.MIN_VALUE, Integer.MAX_VALUE};

    private static void noSuchUnit() {
        check.sentence("Terms", "NoSuchElementException: a unit or place that there is not");
        for (int unit : NEVER) {
            inAll("fits(" + unit + ", 0)", MISSING, x -> x.fits(unit, 0, false));
            inAll("cost(" + unit + ", 0)", MISSING, x -> x.cost(unit, 0, 0));
            inAll("together(" + unit + ", 1)", MISSING, x -> x.together(unit, 1));
            inAll("together(1, " + unit + ")", MISSING, x -> x.together(1, unit));
            inAll("fix(" + unit + ", 0)", MISSING, x -> x.fix(unit, 0));
            inAll("fix(" + unit + ", -1)", MISSING, x -> x.fix(unit, -1));
            inAll("at(" + unit + ")", MISSING, x -> x.at(unit));
            inAll("barred(" + unit + ")", MISSING, x -> x.barred(unit));
            inAll("put(" + unit + ")", MISSING, x -> x.put(unit));
            inAll("share(" + unit + ")", MISSING, x -> x.share(unit));
            inAll("trip(" + unit + ")", MISSING, x -> x.trip(unit));
        }
        refused("at(5), the next one", MISSING, RefusalsTest::busy, x -> x.at(5));
        refused("put(5), the next one", MISSING, RefusalsTest::busy, x -> x.put(5));
        refused("fits(5, 0), the next one", MISSING, RefusalsTest::busy, x -> x.fits(5, 0, true));
        refused("at(0) of a new one", MISSING, PutAwayAssign::new, x -> x.at(0));
    }

    private static void noSuchPlace() {
        check.sentence("Terms", "NoSuchElementException: a unit or place that there is not");
        for (int place : NEVER) {
            inAll("fits(1, " + place + ")", MISSING, x -> x.fits(1, place, false));
            inAll("cost(1, " + place + ")", MISSING, x -> x.cost(1, place, 0));
            inAll("block(" + place + ")", MISSING, x -> x.block(place));
            inAll("open(" + place + ")", MISSING, x -> x.open(place));
            inAll("told(" + place + ", 0)", MISSING, x -> x.told(place, 0));
            if (place != -1) {
                inAll("fix(1, " + place + ")", MISSING, x -> x.fix(1, place));
            }
        }
        refused("block(4), the next one", MISSING, RefusalsTest::busy, x -> x.block(4));
        refused("fits(1, 4), the next one", MISSING, RefusalsTest::busy, x -> x.fits(1, 4, false));
        refused("fix(1, 4), the next one", MISSING, RefusalsTest::busy, x -> x.fix(1, 4));
        refused("told(0, 0) of a new one", MISSING, PutAwayAssign::new, x -> x.told(0, 0));
    }

    private static void noSuchUnitOrPlaceBeforeANumber() {
        check.sentence("Terms", "REFUSALS, the first that holds");
        inAll("cost(12, 0, 1000001)", MISSING, x -> x.cost(12, 0, 1000001));
        inAll("cost(0, 12, 1000001)", MISSING, x -> x.cost(0, 12, 1000001));
        inAll("cost(-1, -1, greatest)", MISSING, x -> x.cost(-1, -1, Integer.MAX_VALUE));
        inAll("told(12, 4)", MISSING, x -> x.told(12, 4));
        inAll("told(-1, -1)", MISSING, x -> x.told(-1, -1));
    }

    private static void noSuchUnitOrPlaceBeforeTheState() {
        check.sentence("Terms", "REFUSALS, the first that holds");
        inAll("together(0, 12), one done", MISSING, x -> x.together(0, 12));
        inAll("together(12, 0), one done", MISSING, x -> x.together(12, 0));
        inAll("together(12, 12), the same", MISSING, x -> x.together(12, 12));
        inAll("together(-1, -1), the same", MISSING, x -> x.together(-1, -1));
        inAll("fix(0, 12), done", MISSING, x -> x.fix(0, 12));
        inAll("fix(0, -2), done", MISSING, x -> x.fix(0, -2));
    }

    private static void anotherNumber() {
        check.sentence("Terms", "IllegalArgumentException: another number outside its range");
        inAll("weight(8, 1)", ARGUMENT, x -> x.weight(8, 1));
        inAll("weight(1, 101)", ARGUMENT, x -> x.weight(1, 101));
        inAll("limits(9, 1)", ARGUMENT, x -> x.limits(9, 1));
        inAll("limits(0, 1001)", ARGUMENT, x -> x.limits(0, 1001));
        inAll("assign(-1)", ARGUMENT, x -> x.assign(-1));
        refused("cost(1, 1, 1000001)", ARGUMENT, RefusalsTest::busy, x -> x.cost(1, 1, 1000001));
        refused("cost(0, 1, 1000001), done", ARGUMENT, RefusalsTest::busy, x -> x.cost(0, 1, 1000001));
        refused("told(3, 4), blocked", ARGUMENT, RefusalsTest::busy, x -> x.told(3, 4));
        refused("unit(8, 1)", ARGUMENT, RefusalsTest::busy, x -> x.unit(8, 1));
        refused("place(1, 0, 1, 1001)", ARGUMENT, RefusalsTest::busy, x -> x.place(1, 0, 1, 1001));
    }

    private static void aNumberBeforeNoRoom() {
        check.sentence("Terms", "REFUSALS, the first that holds");
        refused("unit(8, 1)", ARGUMENT, RefusalsTest::full, x -> x.unit(8, 1));
        refused("unit(0, 101)", ARGUMENT, RefusalsTest::full, x -> x.unit(0, 101));
        refused("place(256, 0, 0, 0)", ARGUMENT, RefusalsTest::full, x -> x.place(256, 0, 0, 0));
        refused("place(0, 4, 0, 0)", ARGUMENT, RefusalsTest::full, x -> x.place(0, 4, 0, 0));
        refused("place(0, 0, 1001, 0)", ARGUMENT, RefusalsTest::full, x -> x.place(0, 0, 1001, 0));
        refused("place(0, 0, 0, 1001)", ARGUMENT, RefusalsTest::full, x -> x.place(0, 0, 0, 1001));
    }

    private static void notAsItIsNow() {
        check.sentence("Terms", "IllegalStateException: not as it is now");
        refused("together(0, 2), done", STATE, RefusalsTest::busy, x -> x.together(0, 2));
        refused("together(2, 0), done", STATE, RefusalsTest::busy, x -> x.together(2, 0));
        refused("together(1, 3), together", STATE, RefusalsTest::busy, x -> x.together(1, 3));
        refused("together(2, 2), the same", STATE, RefusalsTest::busy, x -> x.together(2, 2));
        refused("fix(0, 1), done", STATE, RefusalsTest::busy, x -> x.fix(0, 1));
        refused("fix(0, -1), done", STATE, RefusalsTest::busy, x -> x.fix(0, -1));
        refused("barred(0), done", STATE, RefusalsTest::busy, x -> x.barred(0));
        refused("put(0), done", STATE, RefusalsTest::busy, x -> x.put(0));
        refused("put(4), not planned", STATE, RefusalsTest::busy, x -> x.put(4));
        refused("put(3), not allowed", STATE, RefusalsTest::barredBusy, x -> x.put(3));
        refused("block(3), blocked", STATE, RefusalsTest::busy, x -> x.block(3));
        refused("open(1), not blocked", STATE, RefusalsTest::busy, x -> x.open(1));
        refused("share(0), done", STATE, RefusalsTest::busy, x -> x.share(0));
        refused("share(4), not planned", STATE, RefusalsTest::busy, x -> x.share(4));
    }

    private static PutAwayAssign barredBusy() {
        PutAwayAssign x = busy();
        x.fits(3, x.at(3), false);
        return x;
    }

    private static void theStateBeforeASumOfZero() {
        check.sentence("Promise 18", "IllegalStateException: it is done, or not planned; ArithmeticException");
        refused("share(0), done, the sum is 0", STATE, RefusalsTest::full, x -> x.share(0));
        refused("share(1), the sum is 0", BY_ZERO, RefusalsTest::full, x -> x.share(1));
        refused("share(11), the sum is 0", BY_ZERO, RefusalsTest::full, x -> x.share(11));
    }

    private static void noRoom() {
        check.sentence("Terms", "UnsupportedOperationException: no room.");
        refused("unit(0, 1)", NO_ROOM, RefusalsTest::full, x -> x.unit(0, 1));
        refused("place(0, 0, 0, 0)", NO_ROOM, RefusalsTest::full, x -> x.place(0, 0, 0, 0));
    }

    /** Each call is answered as the first one was, up to the last of 512. */
    private static void as512CallsSay() {
        check.sentence("What it is", "An object is used for at most 512 calls after it has been made");
        PutAwayAssign x = Made.with(8, 12, 1);
        x.limits(8, 100);
        for (int call = 22; call <= 512; call++) {
            check.due("assign() as call " + call, x.assign(1000), 8 * 90 + 28);
        }
    }
}
