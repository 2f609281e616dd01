import java.lang.reflect.Method;
import java.util.Arrays;
import java.util.Comparator;
import java.util.function.Consumer;

/**
 * Every call with every corner of its arguments, on a new object, on one without houses, on
 * one with a street and on a full one: answered as the model of the document answers it.
 */
public final class CornersTest {
    private static final int MIN = Integer.MIN_VALUE, MAX = Integer.MAX_VALUE;
    // What a call with that many arguments is tried with.
    private static final int[][] CORNERS = {
        {},
        {MIN, -129, -10, -9, -8, -1, 0, 1, 2, 3, 4, 5, 6, 7, 8, 9, 10, 20, 21, 40, 41, 52, 53, 59,
            60, 61, 99, 100, 255, 256, MAX - 1, MAX},
        {MIN, -1, 0, 1, 2, 3, 4, 5, 6, 7, 8, 9, 10, 20, 21, 40, 41, 60, 61, 255, 256, MAX - 1, MAX},
        {MIN, -1, 0, 1, 2, 3, 5, 6, 7, 59, 60, MAX},
        {MIN, -10, -1, 0, 1, 3, 5, 8, 30, 31, MAX},
        {MIN, -1, 0, 1, 3, 6, MAX}};
    // An object is used for at most 512 calls; a call here is three of them, with what it tells.
    private static final int CALLS = 512 - 2 * 3;

    public static void main(String[] args) {
        Method[] face = RiverTuesdays.class.getMethods();
        Arrays.sort(face, Comparator.comparing(Method::getName));
        for (Method method : face) {
            if (method.getDeclaringClass() == RiverTuesdays.class) {
                corners(method, twin -> { });
                corners(method, CornersTest::fill);
                corners(method, CornersTest::build);
                corners(method, CornersTest::buildFull);
            }
        }
        Due.end("CornersTest");
    }

    private static void corners(Method method, Consumer<Twin> state) {
        int[] values = CORNERS[method.getParameterCount()];
        int[] args = new int[method.getParameterCount()];
        int all = (int) Math.pow(values.length, args.length);
        Twin twin = in(state);
        for (int n = 0; n < all; n++) {
            for (int k = 0, rest = n; k < args.length; k++, rest /= values.length) {
                args[k] = values[rest % values.length];
            }
            twin.alike(method.getName(), args);
            if (twin.calls() > CALLS) {
                twin.alike("digest");
                twin = in(state);
            }
        }
        twin.alike("digest");
    }

    private static Twin in(Consumer<Twin> state) {
        Twin twin = new Twin();
        state.accept(twin);
        return twin;
    }

    private static void row(Twin twin, int r, int... places) {
        twin.so("row", r, places.length);
        for (int i = 0; i < places.length; i++) {
            if (places[i] != 0) {
                twin.so("lay", r, i, places[i]);
            }
        }
    }

    private static void text(Twin twin, int t, String signs) {
        twin.so("text", t, signs.length());
        for (int i = 0; i < signs.length(); i++) {
            if (signs.charAt(i) != ' ') {
                twin.so("put", t, i, signs.charAt(i));
            }
        }
    }

    /** Rows of jobs, of a calendar's days, of none and of one; texts with and without a fault. */
    private static void fill(Twin twin) {
        text(twin, 0, " q5");
        text(twin, 3, "q99 h000");
        row(twin, 0, 3, 1, 2);
        row(twin, 1);
        row(twin, 3, 9, 9, 0);
        row(twin, 5, 77);
        twin.so("at", 5, 0);
    }

    private static void build(Twin twin) {
        fill(twin);
        text(twin, 1, "q72 m521 s413 l222 w315 d101 h019");
        twin.so("street", 1);
        twin.so("tuesday", 5);
        twin.so("keep", 1);
        twin.so("hour", 1);
        twin.so("shut", 2, 1);
        row(twin, 2, -9, -9, -9, -9, -9, -9);
        row(twin, 4, -9, 0, -9, 0, 1000, 1);
        twin.so("at", 5, 0);
    }

    /** Eight houses, 60 hours, three streets kept, all rows and texts there. */
    private static void buildFull(Twin twin) {
        text(twin, 0, "q98l011w202s193m384h005d276s467l158");
        twin.so("street", 0);
        for (int n = 0; n < 7; n++) {
            twin.so("tuesday", n * 41 % 256);
        }
        for (int n = 0; n < 4; n++) {
            twin.so("hour", n % 2);
        }
        twin.so("shut", 7, 1);
        for (int k = 0; k < 3; k++) {
            twin.so("keep", k);
        }
        for (int t = 1; t < 4; t++) {
            twin.so("text", t, 60);
        }
        for (int r = 0; r < 6; r++) {
            row(twin, r, r < 4 ? new int[60] : new int[] {-9, -9, -9, -9, -9, -9, -9, -9});
        }
    }
}
