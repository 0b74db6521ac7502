/** Counts and prints the answers that are not the ones that are due. */
final class Checker {
    private int wrong = 0;
    private int asked = 0;
    private final String name;
    private String part = "";

    Checker(String name) {
        this.name = name;
    }

    /** What is asked from here on belongs to this part, which is told with a wrong answer. */
    void begin(String part) {
        this.part = part + ": ";
    }

    void due(String call, long got, long want) {
        asked++;
        if (got != want) {
            wrong++;
            System.out.println(name + ": " + part + call + " answered " + got + ", due is " + want);
        }
    }

    void due(String call, boolean got, boolean want) {
        due(call, got ? 1L : 0L, want ? 1L : 0L);
    }

    void same(String what, String got, String want) {
        asked++;
        if (!got.equals(want)) {
            wrong++;
            System.out.println(name + ": " + part + what + " is\n" + got + "\nand due is\n" + want);
        }
    }

    void holds(String what, boolean is) {
        due(what, is, true);
    }

    int wrongSoFar() {
        return wrong;
    }

    int askedSoFar() {
        return asked;
    }

    void end() {
        System.out.println(name + ": " + asked + " answers, " + wrong + " not as due");
        if (wrong != 0 || asked == 0) {
            System.exit(1);
        }
    }
}
