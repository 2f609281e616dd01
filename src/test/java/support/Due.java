/** Holds answers against those that are due, and ends a test. */
final class Due {
    private static int wrong = 0;
    private static int asked = 0;

    private Due() {
    }

    static void is(String what, long got, long want) {
        asked++;
        if (got != want) {
            wrong++;
            System.out.println(what + " answered " + got + ", due is " + want);
        }
    }

    /** A call that was refused with a finding, which is the latest one then. */
    static void finds(RiverTuesdays x, String what, int got, int finding) {
        is(what, got, RiverTuesdays.FINDING);
        is(what + ", its finding", x.finding(), finding);
    }

    /** A call that answers and tells something by asked(). */
    static void tells(RiverTuesdays x, String what, int got, int want, int told) {
        is(what, got, want);
        is(what + ", told", x.asked(), told);
    }

    static void end(String test) {
        System.out.println(test + ": " + asked + " answers, " + wrong + " not as due");
        if (wrong != 0) {
            System.exit(1);
        }
    }
}
