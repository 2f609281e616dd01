import java.math.BigInteger;
import java.util.ArrayList;
import java.util.List;
import java.util.function.ToLongFunction;

/** Promises 1 and 44 to 50, sentence by sentence, at the edges that they name. */
public final class ToldEdgesTest {
    private static final int MIN = Integer.MIN_VALUE, MAX = Integer.MAX_VALUE;
    private static final int BAD = RiverTuesdays.BAD, NONE = RiverTuesdays.NONE;
    private static final int FINDING = RiverTuesdays.FINDING, STATE = RiverTuesdays.STATE;

    public static void main(String[] args) {
        newHasNoRows();
        newHasNoTexts();
        newHasNoHouses();
        newObjectsApart();
        askedBefore();
        askedByEachCall();
        askedLeftByOthers();
        askedByNone();
        upperAndLowerOfNone();
        upperAndLowerOfAll();
        upperAndLowerInLowestTerms();
        countNumbers();
        countNoneAndAll();
        findingBefore();
        findingLatest();
        findingsNumbers();
        findingsOfManyCalls();
        digestOfNone();
        digestOfOneHouse();
        digestOfAll();
        digestWrapsAround();
        digestLeavesAsked();
        the512thCall();
        Due.end("ToldEdgesTest");
    }

    // ---- 1 a new object

    private static void newHasNoRows() {
        Due.sentence(1, "No ROWS");
        for (int r = 0; r <= 5; r++) {
            int row = r;
            newFinds("at " + r, x -> x.at(row, 0));
            newFinds("lay " + r, x -> x.lay(row, 0, 0));
            newFinds("tear " + r, x -> x.tear(row));
            newFinds("copy " + r, x -> x.copy(row, 0, row, 0, 0));
            newFinds("mean " + r, x -> x.mean(row));
            newFinds("work " + r, x -> x.work(row, row, row));
            newFinds("done " + r, x -> x.done(row, row));
            newFinds("calendar " + r, x -> x.calendar(0, 1, row, 0));
        }
        Due.is("count", new RiverTuesdays().count(6), 0);
    }

    private static void newFinds(String call, java.util.function.ToIntFunction<RiverTuesdays> by) {
        Refused.finds(RiverTuesdays::new, "new, " + call, Refused.NOTHING, by);
    }

    private static void newHasNoTexts() {
        Due.sentence(1, "No TEXTS");
        for (int t = 0; t <= 3; t++) {
            int text = t;
            newFinds("put " + t, x -> x.put(text, 0, 0));
            newFinds("fault " + t, x -> x.fault(text));
            newFinds("street " + t, x -> x.street(text));
        }
        Due.is("count", new RiverTuesdays().count(7), 0);
    }

    private static void newHasNoHouses() {
        Due.sentence(1, "No HOUSES");
        Refused.bad(RiverTuesdays::new, "house", x -> x.house(0, 0));
        Refused.bad(RiverTuesdays::new, "mark", x -> x.mark(0, 1));
        Refused.bad(RiverTuesdays::new, "sill", x -> x.sill(0, 0));
        Refused.bad(RiverTuesdays::new, "shut", x -> x.shut(0, 0));
        Refused.bad(RiverTuesdays::new, "pump", x -> x.pump(0));
        Refused.state(RiverTuesdays::new, "flow", x -> x.flow(1));
        Refused.state(RiverTuesdays::new, "hour", x -> x.hour(0));
        Refused.state(RiverTuesdays::new, "keep", x -> x.keep(0));
        for (int k = 0; k <= 2; k++) {
            int place = k;
            newFinds("on " + k, x -> x.on(place));
        }
        RiverTuesdays x = new RiverTuesdays();
        Due.is("undo", x.undo(0), 0);
        Due.tells(x, "water", x.water(), 0, 0);
        for (int what = 0; what <= 5; what++) {
            Due.is("count " + what, x.count(what), 0);
        }
    }

    private static void newObjectsApart() {
        Due.sentence(1, "A new object");
        RiverTuesdays x = new RiverTuesdays();
        Make.row(x, 0, 5);
        Make.text(x, 0, "q10 h000");
        x.street(0);
        x.hour(1);
        x.tear(3);
        RiverTuesdays y = new RiverTuesdays();
        Due.is("apart from others", y.digest(), digestOf(new int[25], 12, 25));
        Due.is("nothing told", y.asked(), 0);
        Due.is("nothing found", y.finding() + y.findings(1), 0);
    }

    // ---- 44 asked

    private static void askedBefore() {
        Due.sentence(44, "0 before");
        RiverTuesdays x = new RiverTuesdays();
        Due.is("new", x.asked(), 0);
        x.row(0, 0);
        x.at(0, 0);
        x.mean(0);
        x.house(0, 0);
        x.hour(1);
        Due.is("behind refusals", x.asked(), 0);
    }

    private static void told(String call, ToLongFunction<RiverTuesdays> by, long answer, int told) {
        RiverTuesdays x = forAsked();
        Due.is(call, by.applyAsLong(x), answer);
        Due.is(call + ", asked()", x.asked(), told);
        Due.is(call + ", asked() again", x.asked(), told);
    }

    /**
     * A wheel and a cellar behind it: 9 come, 9 run on, 5 of them run out, 4 go below. Rows 0
     * (77), 1 (3, 5), 2 (not seen, not seen), 3 (9, 9); 77 is told.
     */
    private static RiverTuesdays forAsked() {
        RiverTuesdays x = Make.street("q90 w900 h009");
        Make.row(x, 0, 77);
        Make.row(x, 1, 3, 5);
        Make.row(x, 2, NONE, NONE);
        Make.row(x, 3, 9, 9);
        x.at(0, 0);
        return x;
    }

    private static void askedByEachCall() {
        Due.sentence(44, "What the latest lay(), at(), .. years() told");
        told("lay", x -> x.lay(0, 0, 1), 1, 77);
        told("at", x -> x.at(1, 1), 1, 5);
        told("mean", x -> x.mean(1), 1, 4);
        told("house", x -> x.house(0, 1), 1, 9);
        told("hour", x -> x.hour(1), 0, 5);
        told("water", x -> x.water(), 0, 0);
        told("harm", x -> x.harm(1), 4, 4);
        told("wet", x -> x.wet(1), 2, 1);
        told("cut", x -> x.cut(1, 0), 0, 0);
        told("trade", x -> x.trade(1), 0, 0);
        told("stands", x -> x.stands(1), 0, 5);
        told("most", x -> x.most(1), 1, 4);
        told("least", x -> x.least(4), 1, 4);
        told("dry", x -> x.dry(), 0, 0);
        told("led", x -> x.led(2), 256, 0);
        told("sure", x -> x.sure(2), 0, 0);
        told("look", x -> x.look(2), 1, mostAlike());
        told("whose", x -> x.whose(1), 1, 3);
        told("done", x -> x.done(1, 3), 2, 3);
        told("years", x -> x.years(1, 1), 9, 1);
    }

    /** How many of the 256 plans have the commonest mark of the house behind the wheel. */
    private static int mostAlike() {
        int[] times = new int[100];
        RiverTuesdays x = forAsked();
        int most = 0;
        for (int plan = 0; plan < 256; plan++) {
            if (plan % 50 == 0) {
                x = forAsked();
            }
            x.marks(plan, 5);
            int mark = Make.at(x, 5, 1);
            times[mark]++;
            most = Math.max(most, times[mark]);
        }
        return most;
    }

    private static void leaves(String call, ToLongFunction<RiverTuesdays> by) {
        RiverTuesdays x = Make.built();
        long answer = by.applyAsLong(x);
        boolean isRefused = answer == BAD || answer == FINDING || answer == STATE;
        Due.is(call + " is refused", isRefused ? 1 : 0, 0);
        Due.is(call + " leaves asked()", x.asked(), 77);
    }

    private static void askedLeftByOthers() {
        Due.sentence(44, "What the latest lay() .. (and no other call) told");
        leaves("row", x -> x.row(3, 2));
        leaves("tear", x -> x.tear(5));
        leaves("copy", x -> x.copy(0, 0, 0, 1, 1));
        leaves("text", x -> x.text(1, 5));
        leaves("put", x -> x.put(0, 0, 5));
        leaves("fault", x -> x.fault(0));
        leaves("street", x -> x.street(0));
        leaves("mark", x -> x.mark(0, 1));
        leaves("sill", x -> x.sill(0, 5));
        leaves("flow", x -> x.flow(5));
        leaves("shut", x -> x.shut(4, 0));
        leaves("pump", x -> x.pump(0));
        leaves("undo", x -> x.undo(1));
        leaves("keep", x -> x.keep(0));
        leaves("on", x -> x.on(1));
        leaves("when", x -> x.when(255, 0));
        leaves("boat", x -> x.boat(255, 7, 0, 1));
        leaves("marks", x -> x.marks(255, 3));
        leaves("tuesday", x -> x.tuesday(255));
        leaves("raise", x -> x.raise(0, 3));
        leaves("work", x -> x.work(0, 0, 3));
        leaves("calendar", x -> x.calendar(0, 10, 0, 0));
        leaves("upper", x -> x.upper());
        leaves("lower", x -> x.lower());
        leaves("count", x -> x.count(0));
        leaves("finding", x -> x.finding());
        leaves("findings", x -> x.findings(1));
        leaves("asked", x -> x.asked());
        RiverTuesdays x = Make.built();
        x.digest();
        Due.is("digest leaves asked()", x.asked(), 77);
    }

    private static void askedByNone() {
        Due.sentence(44, "that was not refused (nor NONE, but as told)");
        RiverTuesdays x = forAsked();
        Due.is("least of too much", x.least(99), NONE);
        Due.is("leaves asked()", x.asked(), 77);
        x.lay(2, 0, 999);
        Due.tells(x, "led by none", x.led(2), 0, NONE);
        x.sill(1, 20);
        Due.tells(x, "years without harm", x.years(1, 1), 0, NONE);
        x = Make.street("q10 h900");
        Make.row(x, 0, 7);
        Due.tells(x, "lay", x.lay(0, 0, 0), 1, 7);
        Due.is("look, but all are seen", x.look(0), NONE);
        Due.is("leaves asked() too", x.asked(), 7);
        x = Make.street("q99 h091");
        x.hour(1);
        x.sill(0, 8);
        x.house(0, 2);
        Due.is("dry, but it is not", x.dry(), NONE);
        Due.is("leaves asked() as well", x.asked(), 8);
    }

    // ---- 45, 46 upper, lower

    private static void partIs(RiverTuesdays x, String what, long upper, long lower) {
        Due.is(what + ", upper", x.upper(), upper);
        Due.is(what + ", lower", x.lower(), lower);
    }

    private static void upperAndLowerOfNone() {
        Due.sentence(45, "0, if none came");
        Due.is("new", new RiverTuesdays().upper(), 0);
        Due.is("no hours", Make.street("q99 h000").upper(), 0);
        RiverTuesdays x = Make.street("q99 h000");
        x.hour(0);
        Due.is("not open", x.upper(), 0);
        x.hour(1);
        x.undo(1);
        Due.is("undone", x.upper(), 0);
        Due.sentence(46, "1, if none came");
        Due.is("undone", x.lower(), 1);
        Due.is("new", new RiverTuesdays().lower(), 1);
        Due.is("no hours", Make.street("q99 h000").lower(), 1);
        x = Make.street("q90 h900");
        x.hour(1);
        partIs(x, "9 came, none stands", 0, 1);
    }

    private static void upperAndLowerOfAll() {
        Due.sentence(45, "WATER that stands (ahead of HOUSES, in cellars) as a part of all that "
                + "came in");
        RiverTuesdays x = Make.street("q99 h000");
        x.hour(1);
        partIs(x, "all ahead", 1, 1);
        x = Make.street("q99 h009");
        x.hour(1);
        partIs(x, "all in a cellar", 1, 1);
        x.pump(0);
        partIs(x, "all pumped out", 0, 1);
        x = Make.street("q19 h000");
        x.hour(1);
        partIs(x, "1 of 1", 1, 1);
        x = Make.street("q99 h004 h003");
        x.hour(1);
        partIs(x, "in two cellars and ahead of a house", 1, 1);
        x.pump(0);
        partIs(x, "5 of 9", 5, 9);
    }

    private static void upperAndLowerInLowestTerms() {
        Due.sentence(45, "in lowest terms");
        RiverTuesdays x = Make.street("q60 l009");
        x.shut(0, 1);
        x.hour(1);
        partIs(x, "6 of 6", 1, 1);
        Due.is("6 out", x.pump(0), 6);
        partIs(x, "0 of 6", 0, 1);
        x.hour(1);
        partIs(x, "6 of 12", 1, 2);
        x.hour(1);
        partIs(x, "12 of 18", 2, 3);
        x.flow(1);
        x.hour(1);
        partIs(x, "13 of 19", 13, 19);
        x = Make.street("q99 l009");
        x.shut(0, 1);
        for (int n = 0; n < 60; n++) {
            x.hour(1);
        }
        partIs(x, "540 of 540", 1, 1);
        x.pump(0);
        partIs(x, "531 of 540", 59, 60);
    }

    // ---- 47 count

    private static void countNumbers() {
        Due.sentence(47, "BAD");
        for (int what : new int[] {-1, 8, MIN, MAX}) {
            Refused.bad(Make::built, "count " + what, x -> x.count(what));
        }
    }

    private static void countsAre(RiverTuesdays x, String what, int... due) {
        for (int n = 0; n < due.length; n++) {
            Due.is(what + ", count " + n, x.count(n), due[n]);
        }
    }

    private static void countNoneAndAll() {
        Due.sentence(47, "0 HOUSES .. 7 TEXTS that are there");
        countsAre(new RiverTuesdays(), "new", 0, 0, 0, 0, 0, 0, 0, 0);
        countsAre(Make.street("q10 h000 s000"), "two houses", 2, 0, 0, 0, 0, 0, 0, 1);
        countsAre(Make.street("q10 m000 w000 d000 l000"), "wheels and locks, too",
                4, 0, 2, 2, 0, 0, 0, 1);
        countsAre(Make.street("q10w000w000w000w000w000w000w000w000"), "eight wheels",
                8, 0, 8, 0, 0, 0, 0, 1);
        RiverTuesdays x = Make.street("q10l000l000l000l000l000l000l000l000");
        for (int i = 0; i < 8; i++) {
            x.shut(i, 1);
            Due.is("shut", x.count(4), i + 1);
        }
        for (int n = 0; n < 60; n++) {
            x.hour(0);
        }
        for (int k = 0; k < 3; k++) {
            x.keep(k);
            x.keep(k);
        }
        for (int r = 0; r < 6; r++) {
            x.row(r, 10 * r);
            x.row(r, 0);
        }
        for (int t = 0; t < 4; t++) {
            x.text(t, 0);
        }
        countsAre(x, "all", 8, 60, 0, 8, 8, 3, 6, 4);
    }

    // ---- 48, 49 finding, findings

    private static void findingBefore() {
        Due.sentence(48, "0 before any");
        RiverTuesdays x = new RiverTuesdays();
        Due.is("new", x.finding(), 0);
        x.row(6, 0);
        x.hour(1);
        x.row(0, 0);
        Due.is("behind BAD, STATE and an answer", x.finding(), 0);
        RiverTuesdays y = Make.ofHours(60);
        y.hour(0);
        y.least(1);
        Due.is("behind FULL and NONE", y.finding(), 0);
    }

    private static void findingLatest() {
        Due.sentence(48, "The latest FINDING");
        RiverTuesdays x = Make.street("q10 h000");
        int[] due = {1, 2, 3, 4, 5, 1, 3, 5, 2, 4};
        for (int f : due) {
            finding(x, f);
            Due.is("finding " + f, x.finding(), f);
            x.row(0, 0);
            x.hour(2);
            x.count(8);
            Due.is("stays " + f, x.finding(), f);
        }
        for (int f = 1; f <= 5; f++) {
            Due.is("each twice, " + f, x.findings(f), 2);
        }
    }

    private static void finding(RiverTuesdays x, int f) {
        x.row(0, 0);
        switch (f) {
            case 1:
                x.tear(5);
                break;
            case 2:
                x.at(0, 0);
                break;
            case 3:
                x.mark(0, 1);
                break;
            case 4:
                x.mean(0);
                break;
            default:
                x.row(0, -1);
        }
    }

    private static void findingsNumbers() {
        Due.sentence(49, "a FINDING (1 .. 5). BAD");
        for (int f : new int[] {-1, 0, 6, MIN, MAX}) {
            Refused.bad(Make::built, "findings " + f, x -> x.findings(f));
        }
        RiverTuesdays x = new RiverTuesdays();
        for (int f = 1; f <= 5; f++) {
            Due.is("findings " + f, x.findings(f), 0);
        }
    }

    private static void findingsOfManyCalls() {
        Due.sentence(49, "How often a FINDING was answered");
        RiverTuesdays x = new RiverTuesdays();
        for (int n = 1; n <= 510; n++) {
            x.tear(n % 6);
        }
        Due.is("510 times NOTHING", x.findings(1), 510);
        Due.is("never BEYOND", x.findings(2), 0);
    }

    // ---- 50 digest

    private static long digestOf(List<Integer> all) {
        BigInteger h = BigInteger.valueOf(17);
        for (int v : all) {
            h = h.multiply(BigInteger.valueOf(31)).add(BigInteger.valueOf(v));
        }
        return h.longValue();
    }

    /** Numbers as they are, but for those between two places, which are -1. */
    private static long digestOf(int[] numbers, int from, int to) {
        List<Integer> all = new ArrayList<>();
        for (int n = 0; n < numbers.length; n++) {
            all.add(n >= from && n < to ? -1 : numbers[n]);
        }
        return digestOf(all);
    }

    private static void digestOfNone() {
        Due.sentence(50, "FLOW, SEA (0 each without HOUSES); -1: missing");
        Due.is("new", new RiverTuesdays().digest(), digestOf(new int[25], 12, 25));
        RiverTuesdays x = Make.street("q99");
        x.text(0, 0);
        int[] due = new int[25];
        due[7] = 1;
        List<Integer> all = new ArrayList<>();
        for (int n = 0; n < 25; n++) {
            all.add(n == 21 ? 0 : n >= 12 ? -1 : due[n]);
        }
        Due.is("a street of none, by a text of none now", x.digest(), digestOf(all));
        x.row(5, 0);
        all.set(6, 1);
        all.set(20, 0);
        Due.is("a row of none", x.digest(), digestOf(all));
    }

    private static void digestOfOneHouse() {
        Due.sentence(50, "FLOW, SEA, what came in, went out");
        RiverTuesdays x = Make.street("q75 m214");
        List<Integer> all = new ArrayList<>(List.of(1, 0, 1, 0, 0, 0, 0, 1, 7, 5, 0, 0,
                1, 2, 1, 4, 0, 0, 0, 0, -1, -1, -1, -1, -1, -1, -1, -1, -1, 0, -1, -1, -1));
        x.text(0, 0);
        Due.is("dry", x.digest(), digestOf(all));
        x.hour(1);
        all = new ArrayList<>(List.of(1, 1, 1, 0, 0, 0, 0, 1, 7, 5, 7, 2,
                1, 2, 1, 4, 1, 4, 1, 0, 1, -1, -1, -1, -1, -1, -1, -1, -1, -1, 0, -1, -1, -1));
        Due.is("an hour later", x.digest(), digestOf(all));
    }

    /** Everything full: 8 houses, 60 hours, 3 kept, 6 rows and 4 texts of 60 places. */
    private static void digestOfAll() {
        Due.sentence(50, "of each HOUSE .., of each HOUR .., of each ROW its size and places, of "
                + "each TEXT likewise");
        RiverTuesdays x = Make.street("q99l099l099l099l099l099l099l099l099");
        List<Integer> all = new ArrayList<>(List.of(8, 60, 0, 8, 8, 3, 6, 4, 9, 9, 45, 0));
        shutAndLead(x, all);
        for (int k = 0; k < 3; k++) {
            x.keep(k);
            all.add(60);
        }
        fullRows(x, all);
        for (int t = 0; t < 4; t++) {
            x.text(t, 60);
            x.put(t, 59, -128);
            x.put(t, 0, 127);
            all.add(60);
            for (int i = 0; i < 60; i++) {
                all.add(i == 0 ? 127 : i == 59 ? -128 : 32);
            }
        }
        Due.is("all full", x.digest(), digestOf(all));
        Due.is("asked for again", x.digest(), digestOf(all));
    }

    private static void shutAndLead(RiverTuesdays x, List<Integer> all) {
        for (int i = 0; i < 8; i++) {
            x.shut(i, 1);
        }
        List<Integer> open = new ArrayList<>();
        for (int n = 0; n < 60; n++) {
            int isOpen = n >= 55 ? 1 : 0;
            x.hour(isOpen);
            open.add(isOpen);
        }
        for (int i = 0; i < 8; i++) {
            x.sill(i, 20);
            all.addAll(List.of(5, 0, 20, 9, i == 0 ? 36 : 0, i == 0 ? 9 : 0, 0, 1));
        }
        all.addAll(open);
    }

    private static void fullRows(RiverTuesdays x, List<Integer> all) {
        Make.fullRow(x, 0, MIN);
        x.lay(0, 0, MAX);
        x.lay(0, 59, -1);
        for (int r = 0; r < 6; r++) {
            if (r > 0) {
                x.row(r, 60);
                x.copy(0, 0, r, 0, 60);
            }
            all.add(60);
            for (int i = 0; i < 60; i++) {
                all.add(i == 0 ? MAX : i == 59 ? -1 : MIN);
            }
        }
    }

    private static void digestWrapsAround() {
        Due.sentence(50, "h = 31 h + v (a long, which wraps around)");
        RiverTuesdays x = new RiverTuesdays();
        Make.fullRow(x, 3, MAX);
        List<Integer> all = new ArrayList<>(List.of(0, 0, 0, 0, 0, 0, 1, 0, 0, 0, 0, 0,
                -1, -1, -1, -1, -1, -1, 60));
        for (int i = 0; i < 60; i++) {
            all.add(MAX);
        }
        all.addAll(List.of(-1, -1, -1, -1, -1, -1));
        Due.is("greatest ints", x.digest(), digestOf(all));
        x.lay(3, 0, MIN);
        all.set(19, MIN);
        Due.is("the least int", x.digest(), digestOf(all));
    }

    private static void digestLeavesAsked() {
        Due.sentence(50, "asked() stays");
        RiverTuesdays x = Make.built();
        long digest = x.digest();
        Due.is("told as before", x.asked(), 77);
        x.row(6, 0);
        x.tear(3);
        x.house(0, 1);
        Due.is("no part of it: what is told, what is found", x.digest(), digest);
        Due.is("told as before that", x.asked(), 5);
    }

    // ---- all calls

    private static void the512thCall() {
        Due.term("An object is used for at most 512 calls after it has been made");
        RiverTuesdays x = new RiverTuesdays();
        for (int n = 1; n <= 510; n++) {
            x.row(n % 6, n % 61);
        }
        Due.is("the 511th", x.at(0, 21), 1);
        Due.is("the 512th", x.asked(), 0);
        x = new RiverTuesdays();
        x.row(0, 1);
        for (int n = 2; n <= 510; n++) {
            x.lay(0, 0, n);
        }
        Due.is("the 511th lay", x.lay(0, 0, 511), 1);
        Due.is("the 512th tells", x.asked(), 510);
    }
}
