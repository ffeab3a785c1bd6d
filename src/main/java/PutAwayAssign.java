import java.util.NoSuchElementException;

/**
 * Put-away in a warehouse: units that came are given places by rules, at least
 * cost, and are then put away group by group.
 */
public final class PutAwayAssign {
    private static final int KINDS = 8;
    private static final int ZONES = 4;
    private static final int MOST_UNITS = 12;
    private static final int MOST_PLACES = 12;
    private static final int MOST_SIZE = 100;
    private static final int MOST_FREE = 1000;
    private static final int MOST_WAY = 1000;
    private static final int MOST_WEIGHT = 100;
    private static final int MOST_COST = 1000000;
    private static final int MOST_EXACT = 8;
    private static final int MOST_CART = 1000;

    private static final int NONE = -1;
    /** The fixed place of a group whose units are told different ones: no place equals it. */
    private static final int CONTRARY = -2;

    private final Unit[] units = new Unit[MOST_UNITS];
    private final Place[] places = new Place[MOST_PLACES];
    private final int[] weights = new int[KINDS];
    /** The one group that is looked at: filled again for each, so that no call makes objects. */
    private final Group looked = new Group();
    private final BestPlan bestPlan = new BestPlan();
    /** A plan in the making, by the groups' numbers: it is dropped if it costs too much. */
    private final int[] draft = new int[MOST_UNITS];
    private int unitCount;
    private int placeCount;
    private int exactLimit = 6;
    private int cartSize = 100;
    private boolean madeAsBest;

    public PutAwayAssign() {
        for (int kind = 0; kind < KINDS; kind++) {
            weights[kind] = 1;
        }
    }

    public int unit(int kind, int size) throws IllegalArgumentException, UnsupportedOperationException {
        if (outside(kind, 0, KINDS - 1) || outside(size, 1, MOST_SIZE)) {
            throw new IllegalArgumentException("a kind is 0 .. 7, a size 1 .. 100");
        }
        if (unitCount >= MOST_UNITS) {
            throw new UnsupportedOperationException("no room for another unit");
        }
        units[unitCount] = new Unit(unitCount, kind, size);
        unitCount++;
        return unitCount - 1;
    }

    public int place(int fits, int zone, int free, int way)
            throws IllegalArgumentException, UnsupportedOperationException {
        if (outside(fits, 0, (1 << KINDS) - 1) || outside(zone, 0, ZONES - 1)) {
            throw new IllegalArgumentException("fits are 0 .. 255, a zone is 0 .. 3");
        }
        if (outside(free, 0, MOST_FREE) || outside(way, 0, MOST_WAY)) {
            throw new IllegalArgumentException("free room and way are 0 .. 1000");
        }
        if (placeCount >= MOST_PLACES) {
            throw new UnsupportedOperationException("no room for another place");
        }
        places[placeCount] = new Place(fits, zone, free, way);
        placeCount++;
        return placeCount - 1;
    }

    public void weight(int kind, int weight) throws IllegalArgumentException {
        if (outside(kind, 0, KINDS - 1) || outside(weight, 0, MOST_WEIGHT)) {
            throw new IllegalArgumentException("a kind is 0 .. 7, a weight 0 .. 100");
        }
        weights[kind] = weight;
    }

    public void fits(int unit, int place, boolean may) throws NoSuchElementException {
        Unit told = unitOf(unit);
        placeOf(place);
        if (may) {
            told.notAt &= ~(1 << place);
        } else {
            told.notAt |= 1 << place;
        }
    }

    public void cost(int unit, int place, int c) throws NoSuchElementException, IllegalArgumentException {
        Unit told = unitOf(unit);
        placeOf(place);
        if (c > MOST_COST) {
            throw new IllegalArgumentException("a cost is at most 1000000");
        }
        told.toldCosts[place] = c < 0 ? NONE : c;
    }

    public int together(int unit, int other) throws NoSuchElementException, IllegalStateException {
        Unit one = unitOf(unit);
        Unit two = unitOf(other);
        if (one.done || two.done) {
            throw new IllegalStateException("a unit is done");
        }
        // A unit is always with itself, so this refuses the same unit too.
        if (one.group == two.group) {
            throw new IllegalStateException("the units are together already");
        }
        int number = Math.min(one.group, two.group);
        join(number, Math.max(one.group, two.group));
        planFor(number, NONE);
        return gather(number).count;
    }

    public void fix(int unit, int place) throws NoSuchElementException, IllegalStateException {
        Unit told = unitOf(unit);
        if (place != NONE) {
            placeOf(place);
        }
        if (told.done) {
            throw new IllegalStateException("the unit is done");
        }
        told.fixed = place;
    }

    public void limits(int exact, int cart) throws IllegalArgumentException {
        if (outside(exact, 0, MOST_EXACT) || outside(cart, 1, MOST_CART)) {
            throw new IllegalArgumentException("exact is 0 .. 8, a cart 1 .. 1000");
        }
        exactLimit = exact;
        cartSize = cart;
    }

    public int assign(int most) throws IllegalArgumentException {
        if (most < 0) {
            throw new IllegalArgumentException("most is below 0");
        }
        boolean best = groupCount() <= exactLimit;
        int sum = best ? draftBest() : draftOneByOne();
        if (sum > most) {
            return -1;
        }
        takeDraft();
        madeAsBest = best;
        return sum;
    }

    public int at(int unit) throws NoSuchElementException {
        return unitOf(unit).stand;
    }

    public boolean exact() {
        return madeAsBest;
    }

    public int bound() {
        int sum = 0;
        for (int u = 0; u < unitCount; u++) {
            if (isGroup(u)) {
                Group group = gather(u);
                int place = cheapestPlace(group, 0);
                if (place == NONE) {
                    return -1;
                }
                sum += costAt(group, place);
            }
        }
        return sum;
    }

    public int barred(int unit) throws NoSuchElementException, IllegalStateException {
        Unit asked = unitOf(unit);
        if (asked.done) {
            throw new IllegalStateException("the unit is done");
        }
        Group group = gather(asked.group);
        // The last place to fall falls to the answer; with no places at all the first rule leaves none.
        int last = 1;
        for (int p = 0; p < placeCount; p++) {
            int broken = brokenRule(group, p);
            if (broken == 0) {
                return 0;
            }
            last = Math.max(last, broken);
        }
        return last;
    }

    public int put(int unit) throws NoSuchElementException, IllegalStateException {
        Unit asked = unitOf(unit);
        if (!isPlanned(asked)) {
            throw new IllegalStateException("the unit is done or not planned");
        }
        Group group = gather(asked.group);
        if (brokenRule(group, asked.stand) != 0) {
            throw new IllegalStateException("rules do not allow the place any more");
        }
        places[asked.stand].free -= group.size;
        finish(group.number);
        return group.count;
    }

    public int block(int place) throws NoSuchElementException, IllegalStateException {
        Place asked = placeOf(place);
        if (asked.blocked) {
            throw new IllegalStateException("the place is blocked");
        }
        asked.blocked = true;
        int number = groupPlannedFor(place);
        if (number == NONE) {
            return 0;
        }
        int next = cheapestPlace(gather(number), plannedPlaces());
        planFor(number, next);
        return next == NONE ? 0 : 1;
    }

    public void open(int place) throws NoSuchElementException, IllegalStateException {
        Place asked = placeOf(place);
        if (!asked.blocked) {
            throw new IllegalStateException("the place is not blocked");
        }
        asked.blocked = false;
    }

    public int share(int unit) throws NoSuchElementException, IllegalStateException, ArithmeticException {
        Unit asked = unitOf(unit);
        if (!isPlanned(asked)) {
            throw new IllegalStateException("the unit is done or not planned");
        }
        int sum = plannedCosts();
        if (sum == 0) {
            throw new ArithmeticException("/ by zero");
        }
        return 100 * costAt(gather(asked.group), asked.stand) / sum;
    }

    public int trip(int unit) throws NoSuchElementException {
        unitOf(unit);
        int number = -1;
        for (int zone = 0; zone < ZONES; zone++) {
            boolean started = false;
            int load = 0;
            for (int u = 0; u < unitCount; u++) {
                if (goesTo(units[u], zone)) {
                    if (!started || load + units[u].size > cartSize) {
                        number++;
                        load = 0;
                    }
                    started = true;
                    load += units[u].size;
                    if (u == unit) {
                        return number;
                    }
                }
            }
        }
        return -1;
    }

    public int told(int place, int what) throws NoSuchElementException, IllegalArgumentException {
        Place asked = placeOf(place);
        switch (what) {
            case 0:
                return asked.free;
            case 1:
                return asked.zone;
            case 2:
                return asked.blocked ? 1 : 0;
            case 3:
                return groupPlannedFor(place);
            default:
                throw new IllegalArgumentException("what is 0 .. 3");
        }
    }

    public int count(int what) {
        switch (what) {
            case 0:
                return unitCount;
            case 1:
                return placeCount;
            case 2:
                return groupCount();
            case 3:
                return doneCount();
            default:
                return -1;
        }
    }

    private static boolean outside(int number, int least, int most) {
        return number < least || number > most;
    }

    private Unit unitOf(int unit) {
        if (outside(unit, 0, unitCount - 1)) {
            throw new NoSuchElementException("no such unit");
        }
        return units[unit];
    }

    private Place placeOf(int place) {
        if (outside(place, 0, placeCount - 1)) {
            throw new NoSuchElementException("no such place");
        }
        return places[place];
    }

    private boolean isIn(int unit, int group) {
        return !units[unit].done && units[unit].group == group;
    }

    /** Whether a group has this unit's number: then the unit is the least of it. */
    private boolean isGroup(int unit) {
        return isIn(unit, unit);
    }

    private static boolean isPlanned(Unit unit) {
        return !unit.done && unit.stand != NONE;
    }

    private boolean goesTo(Unit unit, int zone) {
        return isPlanned(unit) && places[unit.stand].zone == zone;
    }

    private int groupCount() {
        int groups = 0;
        for (int u = 0; u < unitCount; u++) {
            if (isGroup(u)) {
                groups++;
            }
        }
        return groups;
    }

    private int doneCount() {
        int done = 0;
        for (int u = 0; u < unitCount; u++) {
            if (units[u].done) {
                done++;
            }
        }
        return done;
    }

    /** What the rules and the cost ask of a group; good until the next group is gathered. */
    private Group gather(int number) {
        looked.clear(number);
        for (int u = 0; u < unitCount; u++) {
            if (isIn(u, number)) {
                looked.take(units[u], weights[units[u].kind]);
            }
        }
        return looked;
    }

    private void join(int group, int other) {
        for (int u = 0; u < unitCount; u++) {
            if (isIn(u, other)) {
                units[u].group = group;
            }
        }
    }

    private void planFor(int group, int place) {
        for (int u = 0; u < unitCount; u++) {
            if (isIn(u, group)) {
                units[u].stand = place;
            }
        }
    }

    private void finish(int group) {
        for (int u = 0; u < unitCount; u++) {
            if (isIn(u, group)) {
                units[u].done = true;
            }
        }
    }

    private int groupPlannedFor(int place) {
        for (int u = 0; u < unitCount; u++) {
            if (isGroup(u) && units[u].stand == place) {
                return u;
            }
        }
        return NONE;
    }

    /** The places that groups are planned for, as bits. */
    private int plannedPlaces() {
        int taken = 0;
        for (int u = 0; u < unitCount; u++) {
            if (isPlanned(units[u])) {
                taken |= 1 << units[u].stand;
            }
        }
        return taken;
    }

    private int plannedCosts() {
        int sum = 0;
        for (int u = 0; u < unitCount; u++) {
            if (isGroup(u) && isPlanned(units[u])) {
                sum += costAt(gather(u), units[u].stand);
            }
        }
        return sum;
    }

    /** The first rule that bars a group from a place; 0 if all allow it. */
    private int brokenRule(Group group, int place) {
        Place asked = places[place];
        if (asked.blocked) {
            return 1;
        }
        if ((group.kinds & ~asked.kinds) != 0) {
            return 2;
        }
        if ((group.notAt >> place & 1) != 0) {
            return 3;
        }
        if (group.size > asked.free) {
            return 4;
        }
        if (group.fixed != NONE && group.fixed != place) {
            return 5;
        }
        return 0;
    }

    private int costAt(Group group, int place) {
        int told = units[group.number].toldCosts[place];
        if (told != NONE) {
            return told;
        }
        return places[place].way * group.heaviest + places[place].free - group.size;
    }

    /** The place at the least cost of those that rules allow and that are not taken. */
    private int cheapestPlace(Group group, int taken) {
        int cheapest = NONE;
        int least = 0;
        for (int p = 0; p < placeCount; p++) {
            if ((taken >> p & 1) == 0 && brokenRule(group, p) == 0) {
                int price = costAt(group, p);
                if (cheapest == NONE || price < least) {
                    cheapest = p;
                    least = price;
                }
            }
        }
        return cheapest;
    }

    private int draftOneByOne() {
        int taken = 0;
        int sum = 0;
        for (int u = 0; u < unitCount; u++) {
            if (isGroup(u)) {
                Group group = gather(u);
                int place = cheapestPlace(group, taken);
                draft[u] = place;
                if (place != NONE) {
                    taken |= 1 << place;
                    sum += costAt(group, place);
                }
            }
        }
        return sum;
    }

    private int draftBest() {
        bestPlan.clear();
        for (int u = 0; u < unitCount; u++) {
            if (isGroup(u)) {
                offerPlaces(gather(u));
            }
        }
        bestPlan.solve();
        int sum = 0;
        int row = 0;
        for (int u = 0; u < unitCount; u++) {
            if (isGroup(u)) {
                row++;
                draft[u] = bestPlan.placeGiven(row);
                if (draft[u] != NONE) {
                    sum += costAt(gather(u), draft[u]);
                }
            }
        }
        return sum;
    }

    private void offerPlaces(Group group) {
        bestPlan.addGroup();
        for (int p = 0; p < placeCount; p++) {
            if (brokenRule(group, p) == 0) {
                bestPlan.offer(p, costAt(group, p));
            }
        }
    }

    private void takeDraft() {
        for (int u = 0; u < unitCount; u++) {
            if (isGroup(u)) {
                planFor(u, draft[u]);
            }
        }
    }

    private static final class Unit {
        final int kind;
        final int size;
        /** The number of its group. */
        int group;
        /** The place that it is planned for or, if it is done, at which it was. */
        int stand = NONE;
        int fixed = NONE;
        boolean done;
        /** The places that it was told not to stand at, as bits. */
        int notAt;
        /** By place; NONE where the cost is worked out. */
        final int[] toldCosts = new int[MOST_PLACES];

        Unit(int number, int kind, int size) {
            this.kind = kind;
            this.size = size;
            this.group = number;
            for (int p = 0; p < MOST_PLACES; p++) {
                toldCosts[p] = NONE;
            }
        }
    }

    private static final class Place {
        /** The kinds that fit, as bits. */
        final int kinds;
        final int zone;
        final int way;
        int free;
        boolean blocked;

        Place(int kinds, int zone, int free, int way) {
            this.kinds = kinds;
            this.zone = zone;
            this.free = free;
            this.way = way;
        }
    }

    /** All units of a group taken as one. */
    private static final class Group {
        int number;
        int count;
        int size;
        int heaviest;
        int kinds;
        int notAt;
        int fixed;

        void clear(int ofNumber) {
            number = ofNumber;
            count = 0;
            size = 0;
            heaviest = 0;
            kinds = 0;
            notAt = 0;
            fixed = NONE;
        }

        void take(Unit unit, int itsWeight) {
            count++;
            size += unit.size;
            heaviest = Math.max(heaviest, itsWeight);
            kinds |= 1 << unit.kind;
            notAt |= unit.notAt;
            if (unit.fixed != NONE) {
                fixed = fixed == NONE || fixed == unit.fixed ? unit.fixed : CONTRARY;
            }
        }
    }

    /**
     * The best plan, by the Hungarian method: trying all plans would take up to 13 to the 8th steps.
     *
     * What makes a plan better goes into one price. The costs are multiplied by the number of
     * all plans, so that the plan's own number, with the first group's place as its highest digit,
     * decides between equal sums alone; and to go without a place costs more than any plan's sum.
     * So there is just one plan at the least price.
     *
     * Rows are groups and columns are places, both from 1 on. Behind the places each row finds
     * a column to go without one; row 0 and column 0 stand for nothing.
     */
    private static final class BestPlan {
        private static final int ROWS = MOST_EXACT;
        private static final int COLUMNS = MOST_PLACES + ROWS;
        /** A digit for each place, and the last one for none. */
        private static final int DIGITS = MOST_PLACES + 1;
        /** DIGITS to the power of ROWS. */
        private static final long PLANS = 815730721L;
        private static final long WITHOUT = ROWS * (long) MOST_COST + 1;
        /** Dearer than to go without a place, which each row always can: so no best plan has it. */
        private static final long FORBIDDEN = WITHOUT + 1;
        /** Farther than any column: a price and the shifts of eight rows, each at most a price, stay far below. */
        private static final long UNMEASURED = 1L << 62;

        private final long[][] prices = new long[ROWS + 1][COLUMNS + 1];
        private final long[] rowShift = new long[ROWS + 1];
        private final long[] columnShift = new long[COLUMNS + 1];
        /** 0 while no row has the column. */
        private final int[] rowWith = new int[COLUMNS + 1];
        private final int[] columnBefore = new int[COLUMNS + 1];
        private final long[] distance = new long[COLUMNS + 1];
        private final boolean[] reached = new boolean[COLUMNS + 1];
        private int rows;
        private long digitWorth;

        void clear() {
            rows = 0;
            digitWorth = PLANS;
            for (int row = 0; row <= ROWS; row++) {
                rowShift[row] = 0;
            }
            for (int column = 0; column <= COLUMNS; column++) {
                columnShift[column] = 0;
                rowWith[column] = 0;
            }
        }

        /** The next group; it goes without a place unless one is offered. */
        void addGroup() {
            if (rows >= ROWS) {
                return;
            }
            rows++;
            digitWorth /= DIGITS;
            for (int column = 1; column <= COLUMNS; column++) {
                prices[rows][column] = column <= MOST_PLACES
                        ? FORBIDDEN * PLANS
                        : WITHOUT * PLANS + MOST_PLACES * digitWorth;
            }
        }

        /** The group added last may have this place. */
        void offer(int place, int price) {
            prices[rows][place + 1] = price * PLANS + place * digitWorth;
        }

        void solve() {
            for (int row = 1; row <= rows; row++) {
                giveColumn(row);
            }
        }

        int placeGiven(int row) {
            for (int column = 1; column <= MOST_PLACES; column++) {
                if (rowWith[column] == row) {
                    return column - 1;
                }
            }
            return NONE;
        }

        /** Finds the cheapest chain of rows that move on until a free column, and moves them. */
        private void giveColumn(int row) {
            for (int column = 0; column <= COLUMNS; column++) {
                distance[column] = UNMEASURED;
                reached[column] = false;
            }
            rowWith[0] = row;
            int last = 0;
            for (int step = 0; step <= COLUMNS && rowWith[last] != 0; step++) {
                reached[last] = true;
                measureFrom(last);
                last = nearestColumn();
                shiftBy(distance[last]);
            }
            for (int step = 0; step <= COLUMNS && last != 0; step++) {
                int before = columnBefore[last];
                rowWith[last] = rowWith[before];
                last = before;
            }
        }

        private void measureFrom(int from) {
            int row = rowWith[from];
            for (int column = 1; column <= COLUMNS; column++) {
                if (!reached[column]) {
                    long far = prices[row][column] - rowShift[row] - columnShift[column];
                    if (far < distance[column]) {
                        distance[column] = far;
                        columnBefore[column] = from;
                    }
                }
            }
        }

        /** There always is one not reached: rows are fewer than columns. */
        private int nearestColumn() {
            int nearest = 0;
            for (int column = 1; column <= COLUMNS; column++) {
                if (!reached[column] && (nearest == 0 || distance[column] < distance[nearest])) {
                    nearest = column;
                }
            }
            return nearest;
        }

        /** Keeps all prices less their shifts at 0 or above, and those on the chain at 0. */
        private void shiftBy(long step) {
            for (int column = 0; column <= COLUMNS; column++) {
                if (reached[column]) {
                    rowShift[rowWith[column]] += step;
                    columnShift[column] -= step;
                } else {
                    distance[column] -= step;
                }
            }
        }
    }
}
