import java.util.Random;

/** Long runs of made-up calls, always the same ones: the class answers as the plain model does. */
public final class ModelTest {
    private static final int RUNS = 1500;
    private static final int CALLS = 512;
    private static final int STRAY = 40;

    private final Random draw;
    private final PutAwayAssign real = new PutAwayAssign();
    private final PlainModel model = new PlainModel();
    private final int mostUnits;
    private final int mostPlaces;
    /** Small numbers make equal costs and tight places common. */
    private final int spread;

    private ModelTest(int seed) {
        draw = new Random(seed);
        mostUnits = 1 + draw.nextInt(13);
        mostPlaces = seed % 50 == 0 ? 12 : 1 + draw.nextInt(8);
        spread = draw.nextBoolean() ? 3 : 40;
    }

    public static void main(String[] args) {
        Check check = new Check("ModelTest");
        for (int seed = 0; seed < RUNS; seed++) {
            ModelTest run = new ModelTest(seed);
            for (int call = 0; call < CALLS; call++) {
                String fault = run.step();
                check.due("seed " + seed + ", call " + call, fault, "");
                if (!fault.isEmpty()) {
                    break;
                }
            }
        }
        check.end();
    }

    private interface Asked {
        long answer();
    }

    private static String answerOf(Asked asked) {
        try {
            return String.valueOf(asked.answer());
        } catch (RuntimeException e) {
            return "throws." + e.getClass().getSimpleName();
        }
    }

    private static String differ(String call, Asked of, Asked due) {
        String got = answerOf(of);
        String want = answerOf(due);
        return got.equals(want) ? "" : call + ": " + got + " and not " + want;
    }

    private interface Told {
        void tell();
    }

    private static Asked zero(Told told) {
        return () -> {
            told.tell();
            return 0;
        };
    }

    /** Now and then a number that is just outside, or at the very ends. */
    private int between(int least, int most) {
        if (draw.nextInt(STRAY) != 0) {
            return least + draw.nextInt(most - least + 1);
        }
        int[] stray = {least - 1, most + 1, least, most, Integer.MIN_VALUE, Integer.MAX_VALUE};
        return stray[draw.nextInt(stray.length)];
    }

    private int someUnit() {
        return between(0, Math.max(0, model.count(0) - 1));
    }

    private int somePlace() {
        return between(0, Math.max(0, model.count(1) - 1));
    }

    private String step() {
        switch (draw.nextInt(12)) {
            case 0:
                return enter();
            case 1:
            case 2:
                return tell();
            case 3:
                return arrange();
            case 4:
            case 5:
                return plan();
            case 6:
                return act();
            default:
                return look();
        }
    }

    private String enter() {
        if (draw.nextBoolean() && model.count(0) < mostUnits) {
            int kind = between(0, spread == 3 ? 1 : 7);
            int size = between(1, spread == 3 ? 4 : 100);
            return differ("unit", () -> real.unit(kind, size), () -> model.unit(kind, size));
        }
        if (model.count(1) < mostPlaces || draw.nextInt(STRAY) == 0) {
            int fits = draw.nextInt(3) == 0 ? between(0, 255) : 255;
            int zone = between(0, 3);
            int free = between(0, spread == 3 ? 12 : 300);
            int way = between(0, spread == 3 ? 3 : 1000);
            return differ("place", () -> real.place(fits, zone, free, way),
                    () -> model.place(fits, zone, free, way));
        }
        return "";
    }

    private String tell() {
        int unit = someUnit();
        int place = somePlace();
        switch (draw.nextInt(5)) {
            case 0:
                int kind = between(0, 7);
                int weight = between(0, spread == 3 ? 2 : 100);
                return differ("weight", zero(() -> real.weight(kind, weight)),
                        zero(() -> model.weight(kind, weight)));
            case 1:
                boolean may = draw.nextInt(3) != 0;
                return differ("fits", zero(() -> real.fits(unit, place, may)),
                        zero(() -> model.fits(unit, place, may)));
            case 2:
                int fixed = draw.nextInt(3) != 0 ? -1 : place;
                return differ("fix", zero(() -> real.fix(unit, fixed)), zero(() -> model.fix(unit, fixed)));
            default:
                int c = draw.nextInt(20) == 0 ? 1000000 + draw.nextInt(2) : between(-1, spread);
                return differ("cost", zero(() -> real.cost(unit, place, c)), zero(() -> model.cost(unit, place, c)));
        }
    }

    private String arrange() {
        if (draw.nextInt(4) == 0) {
            int unit = someUnit();
            int other = someUnit();
            return differ("together", () -> real.together(unit, other), () -> model.together(unit, other));
        }
        int exact = draw.nextInt(3) == 0 ? between(0, 8) : 8;
        int cart = between(1, spread == 3 ? 8 : 200);
        return differ("limits", zero(() -> real.limits(exact, cart)), zero(() -> model.limits(exact, cart)));
    }

    private String plan() {
        int most = draw.nextInt(4) == 0 ? between(0, 10 * spread) : Integer.MAX_VALUE;
        return differ("assign", () -> real.assign(most), () -> model.assign(most));
    }

    private String act() {
        int place = somePlace();
        switch (draw.nextInt(5)) {
            case 0:
                int unit = someUnit();
                return differ("put", () -> real.put(unit), () -> model.put(unit));
            case 1:
            case 2:
                return differ("block", () -> real.block(place), () -> model.block(place));
            default:
                return differ("open", zero(() -> real.open(place)), zero(() -> model.open(place)));
        }
    }

    private String look() {
        int unit = someUnit();
        int place = somePlace();
        int what = between(0, 3);
        switch (draw.nextInt(9)) {
            case 0:
                return differ("exact", () -> real.exact() ? 1 : 0, () -> model.exact() ? 1 : 0);
            case 1:
                return differ("bound", real::bound, model::bound);
            case 2:
                return differ("barred", () -> real.barred(unit), () -> model.barred(unit));
            case 3:
                return differ("share", () -> real.share(unit), () -> model.share(unit));
            case 4:
                return differ("trip", () -> real.trip(unit), () -> model.trip(unit));
            case 5:
                return differ("told", () -> real.told(place, what), () -> model.told(place, what));
            case 6:
                return differ("count", () -> real.count(what), () -> model.count(what));
            default:
                return differ("at", () -> real.at(unit), () -> model.at(unit));
        }
    }
}
