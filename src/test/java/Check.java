/** Compares answers with those that are due, tells the wrong ones, and ends the test. */
final class Check {
    private final String name;
    private String asked = "";
    private int sentences;
    private int comparedBefore;
    private int wrong;
    private int compared;

    Check(String name) {
        this.name = name;
    }

    /** What follows tests this: a section of the document, and words of it (EverySentenceTest looks them up). */
    void sentence(String section, String words) {
        eachHasAnAnswer();
        asked = " (" + section + ": " + words + ")";
        sentences++;
        comparedBefore = compared;
    }

    private void eachHasAnAnswer() {
        if (sentences > 0 && compared == comparedBefore) {
            wrong++;
            System.out.println(name + ": no answer is compared for" + asked);
        }
    }

    void due(String what, long got, long want) {
        compared++;
        if (got != want) {
            wrong++;
            System.out.println(name + ": " + what + " answered " + got + ", due is " + want + asked);
        }
    }

    boolean isWrong() {
        return wrong > 0;
    }

    void end() {
        eachHasAnAnswer();
        String of = sentences > 0 ? " of " + sentences + " sentences" : "";
        System.out.println(name + ": " + compared + " answers" + of + ", " + wrong + " not as due");
        if (wrong > 0) {
            System.exit(1);
        }
    }
}
