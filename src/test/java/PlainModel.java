import java.util.ArrayList;
import java.util.HashMap;
import java.util.List;
import java.util.Map;
import java.util.NoSuchElementException;
import java.util.Set;
import java.util.TreeMap;
import java.util.TreeSet;

/**
 * The document once more, as plainly as can be and by other means than the class: groups are
 * sets, plans are maps, and a best plan is found by looking at all of them.
 */
final class PlainModel {
    private final List<int[]> units = new ArrayList<>();
    private final List<int[]> places = new ArrayList<>();
    private final int[] weights = {1, 1, 1, 1, 1, 1, 1, 1};
    private final List<TreeSet<Integer>> groups = new ArrayList<>();
    private final Map<Integer, Integer> doneAt = new TreeMap<>();
    private final Map<Integer, Integer> fixed = new TreeMap<>();
    private final Set<String> notThere = new TreeSet<>();
    private final Map<String, Integer> costs = new TreeMap<>();
    private final Set<Integer> blocked = new TreeSet<>();
    /** From a group's number to its place. */
    private Map<Integer, Integer> plan = new TreeMap<>();
    private boolean best;
    private int exact = 6;
    private int cart = 100;

    private static void range(int number, int least, int most) {
        if (number < least || number > most) {
            throw new IllegalArgumentException();
        }
    }

    private static void there(int number, List<int[]> list) {
        if (number < 0 || number >= list.size()) {
            throw new NoSuchElementException();
        }
    }

    private static void state(boolean as) {
        if (!as) {
            throw new IllegalStateException();
        }
    }

    private static String pair(int unit, int place) {
        return unit + "@" + place;
    }

    int unit(int kind, int size) {
        range(kind, 0, 7);
        range(size, 1, 100);
        if (units.size() == 12) {
            throw new UnsupportedOperationException();
        }
        groups.add(new TreeSet<>(Set.of(units.size())));
        units.add(new int[] {kind, size});
        return units.size() - 1;
    }

    int place(int fits, int zone, int free, int way) {
        range(fits, 0, 255);
        range(zone, 0, 3);
        range(free, 0, 1000);
        range(way, 0, 1000);
        if (places.size() == 12) {
            throw new UnsupportedOperationException();
        }
        places.add(new int[] {fits, zone, free, way});
        return places.size() - 1;
    }

    void weight(int kind, int weight) {
        range(kind, 0, 7);
        range(weight, 0, 100);
        weights[kind] = weight;
    }

    void fits(int unit, int place, boolean may) {
        there(unit, units);
        there(place, places);
        if (may) {
            notThere.remove(pair(unit, place));
        } else {
            notThere.add(pair(unit, place));
        }
    }

    void cost(int unit, int place, int c) {
        there(unit, units);
        there(place, places);
        range(c, Integer.MIN_VALUE, 1000000);
        costs.remove(pair(unit, place));
        if (c >= 0) {
            costs.put(pair(unit, place), c);
        }
    }

    private TreeSet<Integer> groupOf(int unit) {
        for (TreeSet<Integer> group : groups) {
            if (group.contains(unit)) {
                return group;
            }
        }
        return null;
    }

    private List<TreeSet<Integer>> inOrder() {
        List<TreeSet<Integer>> ordered = new ArrayList<>(groups);
        ordered.sort((a, b) -> a.first() - b.first());
        return ordered;
    }

    int together(int unit, int other) {
        there(unit, units);
        there(other, units);
        state(unit != other);
        state(!doneAt.containsKey(unit) && !doneAt.containsKey(other));
        TreeSet<Integer> one = groupOf(unit);
        TreeSet<Integer> two = groupOf(other);
        state(one != two);
        plan.remove(one.first());
        plan.remove(two.first());
        groups.remove(two);
        groups.remove(one);
        one.addAll(two);
        groups.add(one);
        return one.size();
    }

    void fix(int unit, int place) {
        there(unit, units);
        if (place != -1) {
            there(place, places);
        }
        state(!doneAt.containsKey(unit));
        if (place == -1) {
            fixed.remove(unit);
        } else {
            fixed.put(unit, place);
        }
    }

    void limits(int newExact, int newCart) {
        range(newExact, 0, 8);
        range(newCart, 1, 1000);
        exact = newExact;
        cart = newCart;
    }

    private int sizeOf(Set<Integer> group) {
        return group.stream().mapToInt(u -> units.get(u)[1]).sum();
    }

    private boolean obeys(int rule, Set<Integer> group, int place) {
        int[] there = places.get(place);
        switch (rule) {
            case 1:
                return !blocked.contains(place);
            case 2:
                return group.stream().allMatch(u -> (there[0] & 1 << units.get(u)[0]) != 0);
            case 3:
                return group.stream().noneMatch(u -> notThere.contains(pair(u, place)));
            case 4:
                return sizeOf(group) <= there[2];
            default:
                return group.stream().filter(fixed::containsKey).allMatch(u -> fixed.get(u) == place);
        }
    }

    private boolean allowed(Set<Integer> group, int place) {
        return obeys(1, group, place) && obeys(2, group, place) && obeys(3, group, place)
                && obeys(4, group, place) && obeys(5, group, place);
    }

    private int costAt(TreeSet<Integer> group, int place) {
        int weight = group.stream().mapToInt(u -> weights[units.get(u)[0]]).max().getAsInt();
        int[] there = places.get(place);
        int worked = there[3] * weight + there[2] - sizeOf(group);
        return costs.getOrDefault(pair(group.first(), place), worked);
    }

    private int cheapest(TreeSet<Integer> group, Set<Integer> taken) {
        int found = -1;
        for (int p = places.size() - 1; p >= 0; p--) {
            if (allowed(group, p) && !taken.contains(p)
                    && (found == -1 || costAt(group, p) <= costAt(group, found))) {
                found = p;
            }
        }
        return found;
    }

    /** The groups from one on, with some places taken: how many get none, their costs, and the plan. */
    private long[] bestFrom(int from, int taken, long[][] prices, Map<Integer, long[]> known) {
        if (from == prices.length) {
            return new long[] {0, 0, -1};
        }
        int key = from << 12 | taken;
        if (!known.containsKey(key)) {
            long[] found = null;
            for (int p = 0; p <= places.size(); p++) {
                boolean none = p == places.size();
                if (none || (taken >> p & 1) == 0 && prices[from][p] >= 0) {
                    long[] rest = bestFrom(from + 1, none ? taken : taken | 1 << p, prices, known);
                    long without = rest[0] + (none ? 1 : 0);
                    long sum = rest[1] + (none ? 0 : prices[from][p]);
                    if (found == null || without < found[0] || without == found[0] && sum < found[1]) {
                        found = new long[] {without, sum, none ? -1 : p};
                    }
                }
            }
            known.put(key, found);
        }
        return known.get(key);
    }

    private Map<Integer, Integer> bestPlan() {
        List<TreeSet<Integer>> ordered = inOrder();
        long[][] prices = new long[ordered.size()][places.size()];
        for (int i = 0; i < ordered.size(); i++) {
            for (int p = 0; p < places.size(); p++) {
                prices[i][p] = allowed(ordered.get(i), p) ? costAt(ordered.get(i), p) : -1;
            }
        }
        Map<Integer, Integer> made = new TreeMap<>();
        Map<Integer, long[]> known = new HashMap<>();
        int taken = 0;
        for (int i = 0; i < ordered.size(); i++) {
            int place = (int) bestFrom(i, taken, prices, known)[2];
            if (place >= 0) {
                made.put(ordered.get(i).first(), place);
                taken |= 1 << place;
            }
        }
        return made;
    }

    private Map<Integer, Integer> planOneByOne() {
        Map<Integer, Integer> made = new TreeMap<>();
        for (TreeSet<Integer> group : inOrder()) {
            int place = cheapest(group, new TreeSet<>(made.values()));
            if (place >= 0) {
                made.put(group.first(), place);
            }
        }
        return made;
    }

    private int costOf(Map<Integer, Integer> some) {
        int sum = 0;
        for (Map.Entry<Integer, Integer> e : some.entrySet()) {
            sum += costAt(groupOf(e.getKey()), e.getValue());
        }
        return sum;
    }

    int assign(int most) {
        range(most, 0, Integer.MAX_VALUE);
        boolean asBest = groups.size() <= exact;
        Map<Integer, Integer> made = asBest ? bestPlan() : planOneByOne();
        int sum = costOf(made);
        if (sum > most) {
            return -1;
        }
        plan = made;
        best = asBest;
        return sum;
    }

    private int plannedFor(int unit) {
        TreeSet<Integer> group = groupOf(unit);
        return group == null ? -1 : plan.getOrDefault(group.first(), -1);
    }

    int at(int unit) {
        there(unit, units);
        return doneAt.containsKey(unit) ? doneAt.get(unit) : plannedFor(unit);
    }

    boolean exact() {
        return best;
    }

    int bound() {
        int sum = 0;
        for (TreeSet<Integer> group : groups) {
            int place = cheapest(group, Set.of());
            if (place == -1) {
                return -1;
            }
            sum += costAt(group, place);
        }
        return sum;
    }

    int barred(int unit) {
        there(unit, units);
        state(!doneAt.containsKey(unit));
        Set<Integer> left = new TreeSet<>();
        for (int p = 0; p < places.size(); p++) {
            left.add(p);
        }
        for (int rule = 1; rule <= 5; rule++) {
            int asked = rule;
            left.removeIf(p -> !obeys(asked, groupOf(unit), p));
            if (left.isEmpty()) {
                return rule;
            }
        }
        return 0;
    }

    int put(int unit) {
        there(unit, units);
        int place = plannedFor(unit);
        state(place != -1);
        TreeSet<Integer> group = groupOf(unit);
        state(allowed(group, place));
        places.get(place)[2] -= sizeOf(group);
        plan.remove(group.first());
        groups.remove(group);
        for (int u : group) {
            doneAt.put(u, place);
        }
        return group.size();
    }

    int block(int place) {
        there(place, places);
        state(!blocked.contains(place));
        blocked.add(place);
        for (TreeSet<Integer> group : groups) {
            if (plannedFor(group.first()) == place) {
                plan.remove(group.first());
                int next = cheapest(group, new TreeSet<>(plan.values()));
                if (next != -1) {
                    plan.put(group.first(), next);
                }
                return next == -1 ? 0 : 1;
            }
        }
        return 0;
    }

    void open(int place) {
        there(place, places);
        state(blocked.contains(place));
        blocked.remove(place);
    }

    int share(int unit) {
        there(unit, units);
        state(plannedFor(unit) != -1);
        long part = costAt(groupOf(unit), plannedFor(unit));
        long sum = costOf(plan);
        if (sum == 0) {
            throw new ArithmeticException();
        }
        return (int) (100 * part / sum);
    }

    int trip(int unit) {
        there(unit, units);
        List<Integer> going = new ArrayList<>();
        for (int u = 0; u < units.size(); u++) {
            if (plannedFor(u) != -1) {
                going.add(u);
            }
        }
        going.sort((a, b) -> places.get(plannedFor(a))[1] != places.get(plannedFor(b))[1]
                ? places.get(plannedFor(a))[1] - places.get(plannedFor(b))[1] : a - b);
        int number = -1;
        int zone = -1;
        int room = 0;
        for (int u : going) {
            int zoneNow = places.get(plannedFor(u))[1];
            int size = units.get(u)[1];
            if (zoneNow != zone || room < size) {
                number++;
                room = cart;
            }
            zone = zoneNow;
            room -= size;
            if (u == unit) {
                return number;
            }
        }
        return -1;
    }

    int told(int place, int what) {
        there(place, places);
        range(what, 0, 3);
        if (what == 2) {
            return blocked.contains(place) ? 1 : 0;
        }
        if (what == 3) {
            for (Map.Entry<Integer, Integer> e : plan.entrySet()) {
                if (e.getValue() == place) {
                    return e.getKey();
                }
            }
            return -1;
        }
        return places.get(place)[what == 0 ? 2 : 1];
    }

    int count(int what) {
        int[] counts = {units.size(), places.size(), groups.size(), doneAt.size()};
        return what < 0 || what > 3 ? -1 : counts[what];
    }
}
