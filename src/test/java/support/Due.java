/** Holds answers against those that are due, and ends a test. */
final class Due {
    private static String sentence = "";
    private static int wrong = 0;
    private static int asked = 0;

    private Due() {
    }

    /** The words of the document that the answers from here on are held against. */
    static void sentence(int promise, String words) {
        sentence = "promise " + promise + ", \"" + words + "\": ";
    }

    /** Words of the document that stand under "Terms", ahead of the promises. */
    static void term(String words) {
        sentence = "terms, \"" + words + "\": ";
    }

    static void is(String what, long got, long want) {
        asked++;
        if (got != want) {
            wrong++;
            System.out.println(sentence + what + " answered " + got + ", due is " + want);
        }
    }

    /** A call that was refused with a finding, which is the latest one then. */
    static void finds(RiverTuesdays x, String what, int got, int finding) {
        is(what, got, RiverTuesdays.FINDING);
        is(what + ", its finding", x.finding(), finding);
    }

    /** A call that answers and tells something by asked(). */
    static void tells(RiverTuesdays x, String what, int got, int want, int told) {
        is(what, got, want);
        is(what + ", told", x.asked(), told);
    }

    /** A row with these places, and no more. */
    static void row(RiverTuesdays x, String what, int r, int... places) {
        for (int i = 0; i < places.length; i++) {
            is(what + ", place " + i, Make.at(x, r, i), places[i]);
        }
        is(what + ", no more places", x.at(r, places.length), RiverTuesdays.FINDING);
    }

    static void end(String test) {
        System.out.println(test + ": " + asked + " answers, " + wrong + " not as due");
        if (wrong != 0) {
            System.exit(1);
        }
    }
}
