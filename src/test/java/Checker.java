/** Counts and prints the answers that are not the ones that are due. */
final class Checker {
    private int wrong = 0;
    private int asked = 0;
    private final String name;

    Checker(String name) {
        this.name = name;
    }

    void due(String call, long got, long want) {
        asked++;
        if (got != want) {
            wrong++;
            System.out.println(name + ": " + call + " answered " + got + ", due is " + want);
        }
    }

    void due(String call, boolean got, boolean want) {
        due(call, got ? 1L : 0L, want ? 1L : 0L);
    }

    void holds(String what, boolean is) {
        due(what, is, true);
    }

    int wrongSoFar() {
        return wrong;
    }

    void end() {
        System.out.println(name + ": " + asked + " answers, " + wrong + " not as due");
        if (wrong != 0 || asked == 0) {
            System.exit(1);
        }
    }
}
