/** Counts the answers that are not the ones that are due, and says which sentence of the document they break. */
final class Check {
    interface Call {
        void make();
    }

    private final String name;
    private String sentence = "";
    private int sentences;
    private int askedOfSentence = 1;
    private int asked;
    private int wrong;

    Check(String name) {
        this.name = name;
    }

    /** What is asked from here on holds this sentence; a sentence of which nothing is asked counts as wrong. */
    void sentence(String where, String words) {
        seeThatSomethingWasAsked();
        sentences++;
        askedOfSentence = 0;
        sentence = ", " + where + " '" + words + "'";
    }

    private void seeThatSomethingWasAsked() {
        if (askedOfSentence == 0) {
            tellWrong("nothing was asked");
        }
    }

    private void tellWrong(String what) {
        wrong++;
        System.out.println(name + sentence + ": " + what);
    }

    void due(String call, long got, long want) {
        due(call, String.valueOf(got), String.valueOf(want));
    }

    void due(String call, boolean got, boolean want) {
        due(call, got ? 1 : 0, want ? 1 : 0);
    }

    void due(String call, String got, String want) {
        asked++;
        askedOfSentence++;
        if (!got.equals(want)) {
            tellWrong(call + " answered " + got + ", due is " + want);
        }
    }

    void refused(String call, Class<? extends RuntimeException> want, Call made) {
        due(call, outcome(made), want.getSimpleName());
    }

    void taken(String call, Call made) {
        due(call, outcome(made), "nothing");
    }

    /** What a call throws, by its name; "nothing" if it answers. */
    static String outcome(Call made) {
        try {
            made.make();
            return "nothing";
        } catch (RuntimeException e) {
            return e.getClass().getSimpleName();
        }
    }

    void end() {
        seeThatSomethingWasAsked();
        System.out.println(name + ": " + sentences + " sentences, " + asked + " asked, " + wrong + " wrong");
        if (wrong != 0 || asked == 0) {
            System.exit(1);
        }
    }
}
