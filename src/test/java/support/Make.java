import java.util.Arrays;

/** Makes objects in the state that a test begins from. */
final class Make {
    private Make() {
    }

    static void text(RiverTuesdays x, int t, String signs) {
        x.text(t, signs.length());
        for (int i = 0; i < signs.length(); i++) {
            if (signs.charAt(i) != ' ') {
                x.put(t, i, signs.charAt(i));
            }
        }
    }

    static void row(RiverTuesdays x, int r, int... places) {
        x.row(r, places.length);
        for (int i = 0; i < places.length; i++) {
            x.lay(r, i, places[i]);
        }
    }

    /** A row of 60 places, all alike. */
    static void fullRow(RiverTuesdays x, int r, int v) {
        int[] places = new int[60];
        Arrays.fill(places, v);
        row(x, r, places);
    }

    /** An object with a street; text 0 is what it was read from. */
    static RiverTuesdays street(String signs) {
        RiverTuesdays x = new RiverTuesdays();
        text(x, 0, signs);
        Due.is("street \"" + signs + "\"", x.street(0) >= 0 ? 1 : 0, 1);
        return x;
    }

    /**
     * No houses, but rows 0 (7, 8, 9), 1 (none), 5 (77) and texts 0 (a street with a fault),
     * 2 (none); 77 is told, and something was found.
     */
    static RiverTuesdays unbuilt() {
        RiverTuesdays x = new RiverTuesdays();
        text(x, 0, "q99 h12");
        fill(x);
        return x;
    }

    /**
     * A street of all kinds (mill, shop, dam, wheel, lock, house), with 4 hours, one kept
     * ahead of the last two, with a shut lock; rows and texts as without houses, but for
     * text 0, which is the street's.
     */
    static RiverTuesdays built() {
        RiverTuesdays x = street("q72 m521 s413 d222 w315 l101 h019");
        x.hour(1);
        x.hour(1);
        x.keep(1);
        x.hour(1);
        x.hour(0);
        x.shut(4, 1);
        fill(x);
        return x;
    }

    private static void fill(RiverTuesdays x) {
        row(x, 0, 7, 8, 9);
        x.row(1, 0);
        x.text(2, 0);
        x.tear(4);
        row(x, 5, 77);
        x.at(5, 0);
    }

    /** A street of one house with so many hours, all of them shut but the last. */
    static RiverTuesdays ofHours(int hours) {
        RiverTuesdays x = street("q30 h000");
        for (int n = 1; n <= hours; n++) {
            x.hour(n == hours ? 1 : 0);
        }
        return x;
    }

    static int at(RiverTuesdays x, int r, int i) {
        return x.at(r, i) == 1 ? x.asked() : Integer.MIN_VALUE;
    }

    static int house(RiverTuesdays x, int i, int what) {
        return x.house(i, what) == 1 ? x.asked() : Integer.MIN_VALUE;
    }

    /** All water that went out. */
    static int out(RiverTuesdays x) {
        x.water();
        return x.asked();
    }
}
