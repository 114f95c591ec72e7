/** Counts the answers that are not the due ones, and prints each of them. */
final class Checks {
    private int made = 0;
    private int wrong = 0;

    void due(String what, long got, long want) {
        made++;
        if (got != want) {
            wrong++;
            System.out.println(what + " answered " + got + ", due is " + want);
        }
    }

    void due(String what, boolean got, boolean want) {
        due(what, got ? 1 : 0, want ? 1 : 0);
    }

    boolean allDue() {
        return wrong == 0;
    }

    void finish(String name) {
        System.out.println(name + ": " + made + " answers, " + wrong + " of them not as due");
        if (wrong != 0 || made == 0) {
            System.exit(1);
        }
    }
}
