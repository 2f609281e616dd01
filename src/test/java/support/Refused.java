import java.util.Arrays;
import java.util.function.Supplier;
import java.util.function.ToIntFunction;

/**
 * Calls that are refused: each on an object of its own, with the answer that is due, and with
 * nothing changed by it but finding() and findings(), and these by findings alone.
 */
final class Refused {
    static final int NOTHING = 1, BEYOND = 2, UNLIKE = 3, NOUGHT = 4, SIZE = 5;

    private Refused() {
    }

    static void bad(Supplier<RiverTuesdays> from, String what,
            ToIntFunction<RiverTuesdays> call) {
        by(from, what, RiverTuesdays.BAD, call);
    }

    static void state(Supplier<RiverTuesdays> from, String what,
            ToIntFunction<RiverTuesdays> call) {
        by(from, what, RiverTuesdays.STATE, call);
    }

    static void full(Supplier<RiverTuesdays> from, String what,
            ToIntFunction<RiverTuesdays> call) {
        by(from, what, RiverTuesdays.FULL, call);
    }

    /** No refusal, but it changes as little: a row that something was to come to stays, too. */
    static void none(Supplier<RiverTuesdays> from, String what,
            ToIntFunction<RiverTuesdays> call) {
        by(from, what, RiverTuesdays.NONE, call);
    }

    private static void by(Supplier<RiverTuesdays> from, String what, int answer,
            ToIntFunction<RiverTuesdays> call) {
        RiverTuesdays x = from.get();
        int[] found = found(x);
        int latest = x.finding();
        int told = x.asked();
        long digest = x.digest();
        Due.is(what, call.applyAsInt(x), answer);
        Due.is(what + ", asked() stays", x.asked(), told);
        Due.is(what + ", the state stays", x.digest(), digest);
        Due.is(what + ", finding() stays", x.finding(), latest);
        Due.is(what + ", findings() stay", Arrays.equals(found(x), found) ? 1 : 0, 1);
    }

    static void finds(Supplier<RiverTuesdays> from, String what, int finding,
            ToIntFunction<RiverTuesdays> call) {
        RiverTuesdays x = from.get();
        findAnother(x, finding);
        int[] found = found(x);
        found[finding]++;
        int told = x.asked();
        long digest = x.digest();
        Due.is(what, call.applyAsInt(x), RiverTuesdays.FINDING);
        Due.is(what + ", asked() stays", x.asked(), told);
        Due.is(what + ", the state stays", x.digest(), digest);
        Due.is(what + ", finding()", x.finding(), finding);
        Due.is(what + ", findings(), once more", Arrays.equals(found(x), found) ? 1 : 0, 1);
    }

    // So that the finding that is due is not the latest one already.
    private static void findAnother(RiverTuesdays x, int finding) {
        if (finding == SIZE) {
            x.at(0, -1);
        } else {
            x.row(0, -1);
        }
    }

    private static int[] found(RiverTuesdays x) {
        int[] times = new int[6];
        for (int f = NOTHING; f <= SIZE; f++) {
            times[f] = x.findings(f);
        }
        return times;
    }
}
