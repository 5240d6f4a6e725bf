/** Counts and prints answers that are not as due. */
final class Check {
    private final String about;
    private int wrong = 0;
    private int asked = 0;

    Check(String about) {
        this.about = about;
    }

    void due(String call, long got, long want) {
        asked++;
        if (got != want) {
            wrong++;
            System.out.println(about + ": " + call + " answered " + got + ", due is " + want);
        }
    }

    void holds(String what, boolean holds) {
        due(what, holds ? 1 : 0, 1);
    }

    int wrong() {
        return wrong;
    }

    int asked() {
        return asked;
    }

    /** Ends the program with code 1 if something was wrong. */
    void end() {
        System.out.println(about + ": " + asked + " answers looked at, " + wrong + " not as due");
        if (wrong != 0) {
            System.exit(1);
        }
    }
}
