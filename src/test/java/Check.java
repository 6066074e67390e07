/** Counts the answers that are not as due, and tells of each. */
final class Check {
    private int asked = 0;
    private int wrong = 0;
    private String subject = "";

    /** What the answers from now on are about. */
    void about(String newSubject) {
        subject = newSubject;
    }

    void due(String what, long got, long want) {
        asked++;
        if (got != want) {
            wrong++;
            System.out.println(subject + what + " answered " + got + ", due is " + want);
        }
    }

    void due(String what, boolean got, boolean want) {
        due(what, got ? 1 : 0, want ? 1 : 0);
    }

    int asked() {
        return asked;
    }

    boolean isClean() {
        return wrong == 0;
    }

    void end(String name) {
        System.out.println(name + ": " + asked + " answers, " + wrong + " not as due");
        if (wrong != 0 || asked == 0) {
            System.exit(1);
        }
    }
}
