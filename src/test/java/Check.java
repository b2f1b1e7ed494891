/** Compares answers with those that are due, tells the wrong ones, and ends the test. */
final class Check {
    private final String name;
    private int wrong;
    private int compared;

    Check(String name) {
        this.name = name;
    }

    void due(String what, long got, long want) {
        compared++;
        if (got != want) {
            wrong++;
            System.out.println(name + ": " + what + " answered " + got + ", due is " + want);
        }
    }

    boolean isWrong() {
        return wrong > 0;
    }

    void end() {
        System.out.println(name + ": " + compared + " answers, " + wrong + " not as due");
        if (wrong > 0) {
            System.exit(1);
        }
    }
}
