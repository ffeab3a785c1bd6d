/** Objects that several tests begin with. */
final class Made {
    private Made() {
    }

    /** Units of kind 0 and size 10, and places in zone 0 with free room 100, each farther by a step. */
    static PutAwayAssign with(int units, int places, int step) {
        PutAwayAssign x = new PutAwayAssign();
        for (int u = 0; u < units; u++) {
            x.unit(0, 10);
        }
        for (int p = 0; p < places; p++) {
            x.place(1, 0, 100, p * step);
        }
        return x;
    }
}
