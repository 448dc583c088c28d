/** Counts the answers of a test that are not as due, and tells them. */
final class Check {
    private String place = "";
    private int looked = 0;
    private int wrong = 0;

    /** Names what the next answers belong to. */
    void at(String place) {
        this.place = place;
    }

    void due(String call, long got, long want) {
        looked++;
        if (got != want) {
            wrong++;
            System.out.println(place + ": " + call + " answered " + got + ", due is " + want);
        }
    }

    void holds(String what, boolean truth) {
        looked++;
        if (!truth) {
            wrong++;
            System.out.println(place + ": not so: " + what);
        }
    }

    int wrong() {
        return wrong;
    }

    /** Ends the program: a test that looked at nothing has failed too. */
    void end() {
        System.out.println(looked + " answers looked at, " + wrong + " not as due");
        if (wrong != 0 || looked == 0) {
            System.exit(1);
        }
    }
}
