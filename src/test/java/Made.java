/** Objects that several tests begin with, and ways to tell them much at once. */
final class Made {
    private Made() {
    }

    /** Units of kind 0 and size 10, and places in zone 0 with free room 100, each farther by a step. */
    static PutAwayAssign with(int units, int places, int step) {
        PutAwayAssign x = new PutAwayAssign();
        for (int u = 0; u < units; u++) {
            x.unit(0, 10);
        }
        for (int p = 0; p < places; p++) {
            x.place(1, 0, 100, p * step);
        }
        return x;
    }

    /** The costs of a unit at place 0, 1, .. */
    static void costs(PutAwayAssign x, int unit, int... costs) {
        for (int p = 0; p < costs.length; p++) {
            x.cost(unit, p, costs[p]);
        }
    }

    /** A unit may stand at these places and at no other. */
    static void onlyAt(PutAwayAssign x, int unit, int... allowed) {
        for (int p = 0; p < x.count(1); p++) {
            boolean may = false;
            for (int a : allowed) {
                may |= a == p;
            }
            x.fits(unit, p, may);
        }
    }

    /** The places of all units, in their order. */
    static String plan(PutAwayAssign x) {
        StringBuilder text = new StringBuilder();
        for (int u = 0; u < x.count(0); u++) {
            text.append(u == 0 ? "" : " ").append(x.at(u));
        }
        return text.toString();
    }

    /** The trips of all units, in their order. */
    static String trips(PutAwayAssign x) {
        StringBuilder text = new StringBuilder();
        for (int u = 0; u < x.count(0); u++) {
            text.append(u == 0 ? "" : " ").append(x.trip(u));
        }
        return text.toString();
    }
}
