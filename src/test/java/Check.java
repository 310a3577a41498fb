/** Compares answers with those that are due, prints the wrong ones, and ends the test. */
final class Check {
    private int wrong;
    private int asked;
    private String context = "";

    /** Names what the next answers belong to. */
    void enter(String newContext) {
        context = newContext;
    }

    void due(String what, long got, long want) {
        asked++;
        if (got != want) {
            wrong++;
            System.out.println(context + what + " answered " + got + ", due is " + want);
        }
    }

    void holds(String what, boolean condition) {
        due(what, condition ? 1 : 0, 1);
    }

    int answers() {
        return asked;
    }

    boolean isClean() {
        return wrong == 0;
    }

    void end() {
        System.out.println(asked + " answers, " + wrong + " wrong");
        if (wrong != 0 || asked == 0) {
            System.exit(1);
        }
    }
}
