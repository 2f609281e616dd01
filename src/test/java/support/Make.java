/** Makes objects in the state that a test begins from. */
final class Make {
    private Make() {
    }

    static void text(RiverTuesdays x, int t, String signs) {
        x.text(t, signs.length());
        for (int i = 0; i < signs.length(); i++) {
            x.put(t, i, signs.charAt(i));
        }
    }

    static void row(RiverTuesdays x, int r, int... places) {
        x.row(r, places.length);
        for (int i = 0; i < places.length; i++) {
            x.lay(r, i, places[i]);
        }
    }

    /** An object with a street; text 0 is what it was read from. */
    static RiverTuesdays street(String signs) {
        RiverTuesdays x = new RiverTuesdays();
        text(x, 0, signs);
        Due.is("street \"" + signs + "\"", x.street(0) >= 0 ? 1 : 0, 1);
        return x;
    }

    static int at(RiverTuesdays x, int r, int i) {
        return x.at(r, i) == 1 ? x.asked() : Integer.MIN_VALUE;
    }

    static int house(RiverTuesdays x, int i, int what) {
        return x.house(i, what) == 1 ? x.asked() : Integer.MIN_VALUE;
    }
}
