/** Compares answers with those that are due, prints each that is another, and ends with 1 if there was one. */
final class Checks {
    private final String name;
    private int wrong = 0, all = 0;

    Checks(String name) {
        this.name = name;
    }

    void due(String call, long got, long want) {
        all++;
        if (got != want) tellWrong(call, Long.toString(got), Long.toString(want));
    }

    void due(String call, boolean got, boolean want) {
        due(call, Boolean.toString(got), Boolean.toString(want));
    }

    void due(String call, String got, String want) {
        all++;
        if (!got.equals(want)) tellWrong(call, got, want);
    }

    private void tellWrong(String call, String got, String want) {
        wrong++;
        if (wrong <= 50) System.out.println(name + ": " + call + " answered " + got + ", due is " + want);
    }

    boolean hasWrong() {
        return wrong > 0;
    }

    void end() {
        System.out.println(name + ": " + all + " answers, " + wrong + " of them not as due");
        if (wrong != 0) System.exit(1);
    }
}
