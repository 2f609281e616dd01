/** Promises 8 to 11, and what "Terms" says of a street's text, at the edges that they name. */
public final class TextEdgesTest {
    private static final int MIN = Integer.MIN_VALUE, MAX = Integer.MAX_VALUE;
    private static final int NONE = RiverTuesdays.NONE, STATE = RiverTuesdays.STATE;
    private static final int[] NO_TEXTS = {-1, 4, MIN, MAX};
    private static final String EIGHT = "h000m111s222d333w444l555h666m777";

    public static void main(String[] args) {
        textNumbers();
        textSizes();
        textBadAheadOfSize();
        textOfBlanks();
        putNumbers();
        putPlaces();
        putNothingAheadOfBeyond();
        putCut();
        faultRefused();
        faultBlanks();
        faultWithinItems();
        faultTooEarly();
        faultBlanksAlone();
        faultFirstItem();
        faultFlowAndSea();
        faultHouses();
        faultNinthHouse();
        faultFirstOfSeveral();
        faultOfLongTexts();
        faultChangesNothing();
        streetRefused();
        streetOfNoneAndOfEight();
        streetByKinds();
        streetAnew();
        streetBehindOtherCalls();
        streetOfFewer();
        Due.end("TextEdgesTest");
    }

    // ---- 8 text

    private static void textNumbers() {
        Due.sentence(8, "BAD (TEXTS 0 .. 3)");
        for (int t : NO_TEXTS) {
            Refused.bad(Make::built, "text " + t, x -> x.text(t, 3));
        }
        for (int t = 0; t <= 3; t++) {
            RiverTuesdays x = new RiverTuesdays();
            Due.is("text " + t, x.text(t, 2), 2);
            Due.is("its last", x.put(t, 1, 0), 1032);
            Due.is("text " + t + " alone", x.count(7), 1);
        }
    }

    private static void textSizes() {
        Due.sentence(8, "BAD: also n above 60; SIZE: below 0");
        Refused.bad(Make::built, "61", x -> x.text(0, 61));
        Refused.bad(Make::built, "61, a missing text", x -> x.text(1, 61));
        Refused.bad(Make::built, "the greatest int", x -> x.text(0, MAX));
        Refused.finds(Make::built, "-1", Refused.SIZE, x -> x.text(0, -1));
        Refused.finds(Make::built, "-1, a missing text", Refused.SIZE, x -> x.text(1, -1));
        Refused.finds(Make::built, "the least int", Refused.SIZE, x -> x.text(0, MIN));
        RiverTuesdays x = new RiverTuesdays();
        Due.is("0", x.text(1, 0), 0);
        Due.finds(x, "a text of none is there, without places", x.put(1, 0, 0), Refused.BEYOND);
        Due.is("60", x.text(1, 60), 60);
        Due.is("its last place", x.put(1, 59, 0), 1032);
        Due.finds(x, "behind its last place", x.put(1, 60, 0), Refused.BEYOND);
    }

    private static void textBadAheadOfSize() {
        Due.sentence(8, "BAD ahead of FINDING");
        Refused.bad(Make::built, "text 4 of -1", x -> x.text(4, -1));
        Refused.bad(Make::built, "text -1 of -1", x -> x.text(-1, -1));
        Refused.bad(Make::built, "text 4 of the least int", x -> x.text(4, MIN));
    }

    private static void textOfBlanks() {
        Due.sentence(8, "A TEXT is there with n blanks");
        RiverTuesdays x = new RiverTuesdays();
        for (int size : new int[] {3, 3, 2, 60, 1, 60}) {
            x.text(2, size);
            for (int i = 0; i < Math.min(size, 4); i++) {
                Due.is("a blank, " + i + " of " + size, x.put(2, i, 'x'), 1032);
            }
            Due.is("a blank or what was put", x.put(2, size - 1, 'x'), size > 4 ? 1032 : 1120);
            Due.finds(x, "no more than " + size, x.put(2, size, 'x'), Refused.BEYOND);
        }
    }

    // ---- 9 put

    private static void putNumbers() {
        Due.sentence(9, "BAD; NOTHING");
        for (int t : NO_TEXTS) {
            Refused.bad(Make::built, "put in text " + t, x -> x.put(t, 0, 5));
        }
        Refused.bad(Make::built, "put in text 4 at -1", x -> x.put(4, -1, 5));
        for (int t = 0; t <= 3; t++) {
            int text = t;
            Refused.finds(RiverTuesdays::new, "put in missing text " + t, Refused.NOTHING,
                    x -> x.put(text, 0, 5));
        }
    }

    private static void putPlaces() {
        Due.sentence(9, "BEYOND");
        for (int i : new int[] {-1, 33, MIN, MAX}) {
            Refused.finds(Make::built, "put at " + i + " of 33", Refused.BEYOND,
                    x -> x.put(0, i, 5));
        }
        Refused.finds(Make::built, "put at 0 of none", Refused.BEYOND, x -> x.put(2, 0, 5));
        RiverTuesdays x = new RiverTuesdays();
        x.text(3, 60);
        Due.is("put at 0", x.put(3, 0, 1), 1032);
        Due.is("put at 59 of 60", x.put(3, 59, 2), 1032);
        Due.is("it was put", x.put(3, 59, 3), 1002);
        Due.is("the first, too", x.put(3, 0, 3), 1001);
        Due.is("its neighbour stays", x.put(3, 58, 0), 1032);
    }

    private static void putNothingAheadOfBeyond() {
        Due.sentence(9, "BAD; NOTHING; BEYOND");
        Refused.finds(Make::built, "a missing text at -1", Refused.NOTHING, x -> x.put(1, -1, 5));
        Refused.finds(Make::built, "a missing text at 60", Refused.NOTHING, x -> x.put(1, 60, 5));
    }

    private static void putCut() {
        Due.sentence(9, "Byte i of a TEXT is v, cut to a byte (-128 .. 127): what it was, and "
                + "1000 more");
        int[] v = {0, 1, -1, 127, 128, 129, -127, -128, -129, 255, 256, 257, -255, -256, -257,
            32767, 32768, 65536 + 113, MAX, MIN, MAX - 127, MIN + 128};
        int[] bytes = {0, 1, -1, 127, -128, -127, -127, -128, 127, -1, 0, 1, 1, 0, -1,
            -1, 0, 113, -1, 0, -128, -128};
        RiverTuesdays x = new RiverTuesdays();
        x.text(0, 1);
        int was = 32;
        for (int n = 0; n < v.length; n++) {
            Due.is("put " + v[n], x.put(0, 0, v[n]), was + 1000);
            was = bytes[n];
        }
        Due.is("the last one", x.put(0, 0, 0), was + 1000);
    }

    // ---- 10 fault

    /** A text with a fault makes no street; one without makes one. */
    private static void faultIs(String signs, int want) {
        RiverTuesdays x = new RiverTuesdays();
        Make.text(x, 3, signs);
        Due.is("fault of \"" + signs + "\"", x.fault(3), want);
        Due.is("street \"" + signs + "\"", x.street(3) == STATE ? 1 : 0, want == NONE ? 0 : 1);
    }

    private static void faultRefused() {
        Due.sentence(10, "BAD; NOTHING");
        for (int t : NO_TEXTS) {
            Refused.bad(Make::built, "fault of text " + t, x -> x.fault(t));
        }
        for (int t = 0; t <= 3; t++) {
            int text = t;
            Refused.finds(RiverTuesdays::new, "fault of missing text " + t, Refused.NOTHING,
                    x -> x.fault(text));
        }
        Refused.none(Make::built, "no fault", x -> x.fault(0));
    }

    private static void faultBlanks() {
        Due.term("blanks (32) ahead, between, behind as many as wanted");
        faultIs("q10", NONE);
        faultIs(" q10", NONE);
        faultIs("q10 ", NONE);
        faultIs("q10h000", NONE);
        faultIs("q10 h000", NONE);
        faultIs("q10h000h000", NONE);
        faultIs("q10h000 h000", NONE);
        faultIs("q10h000 ", NONE);
        faultIs("   q10    h000     h000      ", NONE);
        for (int v : new int[] {31, 33, 9, 10, 0, -1, -128, 127, -96}) {
            RiverTuesdays x = new RiverTuesdays();
            Make.text(x, 0, " q10 h000 ");
            x.put(0, 0, v);
            Due.is("no blank ahead: " + v, x.fault(0), 0);
            x.put(0, 0, 32);
            x.put(0, 4, v);
            Due.is("no blank between: " + v, x.fault(0), 4);
            x.put(0, 4, 32);
            x.put(0, 9, v);
            Due.is("no blank behind: " + v, x.fault(0), 9);
        }
    }

    private static void faultWithinItems() {
        Due.term("none within items");
        faultIs("q 10", 1);
        faultIs("q1 0", 2);
        faultIs("q10 h 000", 5);
        faultIs("q10 h0 00", 6);
        faultIs("q10 h00 0", 7);
        faultIs("q10h000h 000", 8);
    }

    private static void faultTooEarly() {
        Due.term("the TEXT's size, if its end comes too early");
        faultIs("q", 1);
        faultIs("q1", 2);
        faultIs("q10h", 4);
        faultIs("q10h0", 5);
        faultIs("q10h00", 6);
        faultIs("q10h000h", 8);
        faultIs("q10" + EIGHT.substring(0, 29), 32);
        faultIs("q10" + EIGHT.substring(0, 31), 34);
    }

    private static void faultBlanksAlone() {
        Due.term("or there are blanks alone");
        faultIs("", 0);
        faultIs(" ", 1);
        faultIs("  ", 2);
        faultIs(" ".repeat(59), 59);
        faultIs(" ".repeat(60), 60);
    }

    private static void faultFirstItem() {
        Due.term("The first item is q (113)");
        faultIs("p10", 0);
        faultIs("r10", 0);
        faultIs("Q10", 0);
        faultIs("h000", 0);
        faultIs("110", 0);
        faultIs("  r10", 2);
        faultIs("q10q10", 3);
        faultIs("q10 q10", 4);
        faultIs("q10 h000 q10", 9);
    }

    private static void faultFlowAndSea() {
        Due.term("the FLOW (1 .. 9), the SEA (0 .. 9), one figure each");
        for (char c = '/' - 1; c <= ':' + 1; c++) {
            faultIs("q" + c + "0", c >= '1' && c <= '9' ? NONE : 1);
            faultIs("q1" + c, c >= '0' && c <= '9' ? NONE : 2);
        }
        faultIs("q100", 3);
        faultIs("q-10", 1);
        for (int v : new int[] {-128, -80, -1, 0, 127}) {
            RiverTuesdays x = new RiverTuesdays();
            Make.text(x, 0, "q10");
            x.put(0, 2, v);
            Due.is("sea " + v, x.fault(0), 2);
            x.put(0, 1, v);
            Due.is("flow " + v, x.fault(0), 1);
        }
    }

    private static void faultHouses() {
        Due.term("a letter, FLOOR, SILL, CELLAR (0 .. 9, one figure each)");
        for (char c = '/' - 1; c <= ':' + 1; c++) {
            boolean isFigure = c >= '0' && c <= '9';
            faultIs("q10h" + c + "00", isFigure ? NONE : 4);
            faultIs("q10h0" + c + "0", isFigure ? NONE : 5);
            faultIs("q10h00" + c, isFigure ? NONE : 6);
        }
        faultIs("q10h0000", 7);
        for (int v = -128; v <= 127; v++) {
            RiverTuesdays x = new RiverTuesdays();
            Make.text(x, 0, "q10x000");
            x.put(0, 3, v);
            boolean isKind = v >= 0 && "hmsdwl".indexOf(v) >= 0;
            Due.is("letter " + v, x.fault(0), isKind ? NONE : v == 32 ? 4 : 3);
        }
    }

    private static void faultNinthHouse() {
        Due.term("HOUSES (none, or 8 at most); a ninth HOUSE: its place");
        faultIs("q10", NONE);
        faultIs("q10" + EIGHT, NONE);
        faultIs("q10" + EIGHT + "   ", NONE);
        faultIs("q10" + EIGHT + "h000", 35);
        faultIs("q10" + EIGHT + " h000", 36);
        faultIs("q10" + EIGHT + "   h000 ", 38);
        faultIs("q10" + EIGHT + "h", 35);
        faultIs("q10" + EIGHT + "h0", 35);
        faultIs("q10" + EIGHT + "h00", 35);
        faultIs("q10" + EIGHT + "hx", 35);
        faultIs("q10" + EIGHT + "x", 35);
        faultIs("q10" + EIGHT + "h000h000", 35);
        faultIs("q10" + EIGHT + " ".repeat(24) + "h", 59);
    }

    private static void faultFirstOfSeveral() {
        Due.term("A FAULT is the first place at which it can't go on so");
        faultIs("x10 x000", 0);
        faultIs("q00 x000", 1);
        faultIs("q1x x000", 2);
        faultIs("q10 x000 x", 4);
        faultIs("q10 hxxx", 5);
        faultIs("q10 h0xx", 6);
        faultIs("q10 h000 hx x", 10);
        faultIs("qx", 1);
        faultIs("q0", 1);
    }

    private static void faultOfLongTexts() {
        Due.term("rows of 0 to 60 bytes");
        String far = " ".repeat(52);
        faultIs(far + "q10 h123", NONE);
        faultIs(far + "     q10", NONE);
        faultIs(far + "q10 h12x", 59);
        faultIs(far + "q10  h12", 60);
        faultIs(far + "q10   h1", 60);
        faultIs(far + "q10    h", 60);
        faultIs(far + "q10    x", 59);
        faultIs(far + "      q1", 60);
        faultIs(far + "       q", 60);
        faultIs(far + "       x", 59);
    }

    private static void faultChangesNothing() {
        Due.sentence(10, "A FAULT of a TEXT");
        RiverTuesdays x = Make.built();
        Make.text(x, 1, "q33 w111 w11");
        Make.text(x, 3, "q44 s222");
        x.at(5, 0);
        long before = x.digest();
        Due.is("a fault", x.fault(1), 12);
        Due.is("no fault", x.fault(3), NONE);
        Due.is("the street stays", x.digest(), before);
        Due.is("asked stays", x.asked(), 77);
        Due.is("the flow stays", x.flow(1), 7);
    }

    // ---- 11 street

    private static void streetRefused() {
        Due.sentence(11, "BAD; NOTHING; STATE: a FAULT. (STATE behind NOTHING.)");
        for (int t : NO_TEXTS) {
            Refused.bad(Make::built, "street by text " + t, x -> x.street(t));
        }
        Refused.finds(Make::built, "by a missing text", Refused.NOTHING, x -> x.street(1));
        for (int t = 0; t <= 3; t++) {
            int text = t;
            Refused.finds(RiverTuesdays::new, "by missing text " + t, Refused.NOTHING,
                    x -> x.street(text));
        }
        Refused.state(Make::built, "by a text of none", x -> x.street(2));
        Refused.state(Make::unbuilt, "by a text with a fault", x -> x.street(0));
        Refused.state(TextEdgesTest::builtWithFaults, "one figure too few", x -> x.street(1));
        Refused.state(TextEdgesTest::builtWithFaults, "nine houses", x -> x.street(3));
    }

    private static RiverTuesdays builtWithFaults() {
        RiverTuesdays x = Make.built();
        Make.text(x, 1, "q33 w111 w11");
        Make.text(x, 3, "q10" + EIGHT + "h000");
        return x;
    }

    private static void streetOfNoneAndOfEight() {
        Due.sentence(11, "how many HOUSES");
        RiverTuesdays x = new RiverTuesdays();
        for (int n = 0; n <= 8; n++) {
            Make.text(x, n % 4, "q10" + EIGHT.substring(0, 4 * n));
            Due.is("street of " + n, x.street(n % 4), n);
            Due.is("houses", x.count(0), n);
            Due.is("the last one", x.house(n - 1, 0), n == 0 ? RiverTuesdays.BAD : 1);
            Due.is("behind it", x.house(n, 0), RiverTuesdays.BAD);
        }
    }

    private static void streetByKinds() {
        Due.term("h (104) HOUSE, m (109) MILL, s (115) SHOP, d (100) DAM, w (119) WHEEL, l (108) "
                + "LOCK");
        RiverTuesdays x = Make.street("q10 h098 m109 s210 d321 w432 l543");
        for (int i = 0; i < 6; i++) {
            Due.tells(x, "kind " + i, x.house(i, 0), 1, i);
            Due.tells(x, "floor " + i, x.house(i, 1), 1, i);
            Due.tells(x, "sill " + i, x.house(i, 2), 1, (i + 9) % 10);
            Due.tells(x, "cellar " + i, x.house(i, 3), 1, (i + 8) % 10);
            Due.tells(x, "water ahead of " + i, x.house(i, 4), 1, 0);
            Due.tells(x, "water below " + i, x.house(i, 5), 1, 0);
            Due.tells(x, "ground by " + i, x.house(i, 6), 1, 0);
        }
        x.text(0, 0);
        Due.is("the street stays without its text", x.count(0), 6);
    }

    private static void streetAnew() {
        Due.sentence(11, "anew; dry, no HOURS, no LOCK SHUT; kept STREETS go");
        RiverTuesdays x = Make.built();
        RiverTuesdays y = Make.street("q72 m521 s413 d222 w315 l101 h019");
        x.keep(0);
        x.keep(2);
        x.sill(0, 20);
        x.flow(9);
        Due.is("street anew", x.street(0), 6);
        Due.is("no hours", x.count(1), 0);
        Due.is("no lock shut", x.count(4), 0);
        Due.is("none kept", x.count(5), 0);
        for (int k = 0; k <= 2; k++) {
            Due.finds(x, "kept " + k, x.on(k), Refused.NOTHING);
        }
        for (int i = 0; i < 6; i++) {
            for (int what = 0; what <= 6; what++) {
                y.house(i, what);
                Due.tells(x, "house " + i + " " + what, x.house(i, what), 1, y.asked());
            }
        }
        Due.tells(x, "no water in or out", x.water(), 0, 0);
        Due.is("the flow", x.flow(7), 7);
        Due.is("rows stay", Make.at(x, 0, 2), 9);
        x.street(0);
        Due.is("asked stays", x.asked(), 9);
    }

    private static void streetBehindOtherCalls() {
        Due.sentence(11, "no LOCK SHUT (whatever was asked for ahead of it)");
        RiverTuesdays x = Make.built();
        x.raise(255, 3);
        x.whose(255);
        x.mark(4, 5);
        x.years(2, 7);
        Due.is("street anew", x.street(0), 6);
        Due.is("no lock shut", x.count(4), 0);
        Due.is("not by its mark", x.mark(4, 5), 0);
        Due.is("findings stay", x.findings(1), 1);
        Due.is("the latest one, too", x.finding(), 1);
    }

    private static void streetOfFewer() {
        Due.sentence(11, "A STREET by a TEXT (anew)");
        RiverTuesdays x = Make.street("q90" + EIGHT);
        x.tuesday(255);
        Make.text(x, 1, "q10 l000");
        Due.is("one house", x.street(1), 1);
        Due.is("one comes, one goes", x.hour(1), 0);
        Due.is("house 1", x.house(1, 0), RiverTuesdays.BAD);
        Due.is("mills", x.count(2), 0);
        x.shut(0, 1);
        Make.text(x, 1, "q10");
        Due.is("no houses", x.street(1), 0);
        Due.is("none shut", x.count(4), 0);
        Due.is("no hours", x.count(1), 0);
        Due.is("no hour", x.hour(1), STATE);
        Due.tells(x, "no water", x.water(), 0, 0);
    }
}
