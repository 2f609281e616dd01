/** Promises 8 to 11: texts, and streets by them. */
public final class TextsTest {
    private static final int BAD = RiverTuesdays.BAD, STATE = RiverTuesdays.STATE;
    private static final int NONE = RiverTuesdays.NONE;
    private static final int NOTHING = 1, BEYOND = 2, SIZE = 5;

    public static void main(String[] args) {
        text();
        put();
        fault();
        faultOfBytes();
        street();
        streetAnew();
        Due.end("TextsTest");
    }

    private static void text() {
        RiverTuesdays x = new RiverTuesdays();
        Due.is("text of none", x.text(0, 0), 0);
        Due.is("text of 60", x.text(3, 60), 60);
        Due.is("its last is a blank", x.put(3, 59, 65), 1032);
        Due.is("text of 61", x.text(1, 61), BAD);
        Due.is("text 4", x.text(4, 1), BAD);
        Due.is("text -1 of -1", x.text(-1, -1), BAD);
        Due.finds(x, "text of -1", x.text(1, -1), SIZE);
        Due.is("refused ones are not there", x.count(7), 2);
        Due.is("a text anew", x.text(3, 60), 60);
        Due.is("is blank", x.put(3, 59, 65), 1032);
    }

    private static void put() {
        RiverTuesdays x = new RiverTuesdays();
        x.text(2, 3);
        Due.is("put", x.put(2, 0, 127), 1032);
        Due.is("put 128 over 127", x.put(2, 0, 128), 1127);
        Due.is("128 is cut", x.put(2, 0, -129), 872);
        Due.is("-129 is cut", x.put(2, 0, 256 * 7 - 5), 1127);
        Due.is("1787 is cut", x.put(2, 0, 0), 995);
        Due.is("its neighbour", x.put(2, 1, 0), 1032);
        Due.is("text 4", x.put(4, 0, 0), BAD);
        Due.finds(x, "none", x.put(1, 0, 0), NOTHING);
        Due.finds(x, "at its size", x.put(2, 3, 0), BEYOND);
        Due.finds(x, "at -1", x.put(2, -1, 0), BEYOND);
        Due.is("put tells nothing by asked()", x.asked(), 0);
    }

    private static void faultIs(String signs, int want) {
        RiverTuesdays x = new RiverTuesdays();
        Make.text(x, 1, signs);
        Due.is("fault of \"" + signs + "\"", x.fault(1), want);
        if (want != NONE) {
            Due.is("street \"" + signs + "\"", x.street(1), STATE);
        }
    }

    private static void fault() {
        String eight = "h000m111s222d333w444l555h666m777";
        faultIs("q10", NONE);
        faultIs("q99", NONE);
        faultIs("  q10  ", NONE);
        faultIs("q10" + eight, NONE);
        faultIs("   q50 h123  m456s789 ", NONE);
        faultIs("q10" + eight + "  ", NONE);
        faultIs("q10" + eight + " h000", 36);
        faultIs("q10" + eight + "x", 35);
        faultIs("", 0);
        faultIs("    ", 4);
        faultIs("  Q10", 2);
        faultIs("h000", 0);
        faultIs("q", 1);
        faultIs("q1", 2);
        faultIs("q00", 1);
        faultIs("q 10", 1);
        faultIs("q1 0", 2);
        faultIs("qx", 1);
        faultIs("q1:", 2);
        faultIs("q1/", 2);
        faultIs("q:0", 1);
        faultIs("q10q10", 3);
        faultIs("q10 x000", 4);
        faultIs("q100", 3);
        faultIs("q10h", 4);
        faultIs("q10h1", 5);
        faultIs("q10h12", 6);
        faultIs("q10 h12 3", 7);
        faultIs("q10 h1234", 8);
        faultIs("q10h 123", 4);
        faultIs("q10ha23", 4);
        faultIs("q10h1a3", 5);
        faultIs("q10h12a", 6);
        String far = " ".repeat(52);
        faultIs(far + " ".repeat(8), 60);
        faultIs(far + "       q", 60);
        faultIs(far + "      q1", 60);
        faultIs(far + "q10    h", 60);
        faultIs(far + "q10  h12", 60);
        faultIs(far + "q10 h123", NONE);
        RiverTuesdays x = new RiverTuesdays();
        Due.is("fault of text 4", x.fault(4), BAD);
        Due.is("fault of text -1", x.fault(-1), BAD);
        Due.finds(x, "fault of none", x.fault(0), NOTHING);
    }

    private static void faultOfBytes() {
        for (int v = -128; v <= 127; v++) {
            RiverTuesdays x = new RiverTuesdays();
            Make.text(x, 0, "q10h000");
            x.put(0, 3, v);
            Due.is("letter " + v, x.fault(0), v == ' ' ? 4 : "hmsdwl".indexOf(v) >= 0 ? NONE : 3);
            Make.text(x, 0, "q10h000");
            x.put(0, 1, v);
            Due.is("flow " + v, x.fault(0), v >= '1' && v <= '9' ? NONE : 1);
            Make.text(x, 0, "q10h000");
            x.put(0, 6, v);
            Due.is("cellar " + v, x.fault(0), v >= '0' && v <= '9' ? NONE : 6);
        }
    }

    private static void street() {
        RiverTuesdays x = new RiverTuesdays();
        Due.is("street by text 4", x.street(4), BAD);
        Due.is("street by text -1", x.street(-1), BAD);
        Due.finds(x, "street by none", x.street(2), NOTHING);
        Make.text(x, 2, " q74  w123 l456 ");
        Due.is("street of two", x.street(2), 2);
        int[][] due = {{4, 1, 2, 3, 0, 0, 0}, {5, 4, 5, 6, 0, 0, 0}};
        for (int i = 0; i < 2; i++) {
            for (int what = 0; what < 7; what++) {
                Due.is("house " + i + " " + what, Make.house(x, i, what), due[i][what]);
            }
        }
        Due.is("its flow", x.flow(7), 7);
        Make.text(x, 2, "q10");
        Due.is("street of none", x.street(2), 0);
        Due.is("is without houses", x.count(0), 0);
    }

    private static void streetAnew() {
        RiverTuesdays x = Make.street("q90 l001 h001");
        x.shut(0, 1);
        x.hour(1);
        x.hour(1);
        x.keep(0);
        x.keep(2);
        Make.text(x, 1, "q90 l00");
        Due.is("a street with a fault", x.street(1), STATE);
        Due.is("leaves all", x.count(1) * 100 + x.count(4) * 10 + x.count(5), 212);
        Due.is("street anew", x.street(0), 2);
        Due.is("no hours, none shut, none kept", x.count(1) + x.count(4) + x.count(5), 0);
        Due.is("dry ahead", Make.house(x, 0, 4), 0);
        Due.is("dry below", Make.house(x, 0, 5), 0);
        Due.tells(x, "nothing in or out", x.water(), 0, 0);
        Due.finds(x, "none kept", x.on(0), NOTHING);
        Due.is("none to undo", x.undo(0), 0);
    }
}
