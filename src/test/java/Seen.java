/** All that an object tells, as one text, so that it can be seen whether a call changed anything. */
final class Seen {
    private interface Asked {
        long answer();
    }

    private final StringBuilder text = new StringBuilder();

    private Seen() {
    }

    static String of(PutAwayAssign x) {
        Seen seen = new Seen();
        for (int what = 0; what <= 3; what++) {
            int asked = what;
            seen.add("count", () -> x.count(asked));
        }
        seen.add("exact", () -> x.exact() ? 1 : 0);
        seen.add("bound", x::bound);
        for (int u = 0; u < x.count(0); u++) {
            int unit = u;
            seen.add("at", () -> x.at(unit));
            seen.add("barred", () -> x.barred(unit));
            seen.add("share", () -> x.share(unit));
            seen.add("trip", () -> x.trip(unit));
        }
        for (int p = 0; p < x.count(1); p++) {
            int place = p;
            for (int what = 0; what <= 3; what++) {
                int asked = what;
                seen.add("told", () -> x.told(place, asked));
            }
        }
        return seen.text.toString();
    }

    private void add(String name, Asked asked) {
        text.append(text.length() == 0 ? "" : " ").append(name).append('=');
        try {
            text.append(asked.answer());
        } catch (RuntimeException e) {
            text.append(e.getClass().getSimpleName());
        }
    }
}
