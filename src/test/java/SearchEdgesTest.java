import java.util.function.Supplier;

/** Promises 32 to 39, sentence by sentence, at the edges that they name. */
public final class SearchEdgesTest {
    private static final int MIN = Integer.MIN_VALUE, MAX = Integer.MAX_VALUE;
    private static final int NONE = RiverTuesdays.NONE;
    private static final int LED = 0, SURE = 1, LOOK = 2;
    private static final int[] NO_ROWS = {-1, 6, MIN, MAX};

    public static void main(String[] args) {
        mostNumbers();
        mostOfNoneAndOfAll();
        mostOfAlikeOnes();
        mostFromAsItIs();
        leastNumbers();
        leastOrMore();
        leastOfNinetyNine();
        leastOfAlikeOnes();
        leastFromAsItIs();
        dryRefused();
        dryOfNoneAndOfAll();
        dryNotEvenWithNone();
        dryFromAsItIs();
        for (int way = LED; way <= LOOK; way++) {
            marksNumbers(way);
            marksNothing(way);
            marksSize(way);
            marksUnlike(way);
            marksOfEveryRow(way);
            marksOntoLongerRows(way);
        }
        marksNought();
        ledOfNoneAndOfAll();
        ledFromAsItIs();
        sureOfOneAndOfAll();
        lookAllSeen();
        lookFirst();
        lookAtTheLast();
        lookOfNoneAndOne();
        raiseNumbers();
        raiseByFour();
        raiseTogether();
        raiseNoRoom();
        raiseFromAsItIs();
        raiseToARow();
        whoseFirst();
        whoseOfEight();
        whoseFromAsItIs();
        Due.end("SearchEdgesTest");
    }

    /** Each open hour runs 9 off the wheel: 4 are ground. */
    private static RiverTuesdays wheel() {
        return Make.street("q90 w900");
    }

    // ---- 32 most

    private static void mostNumbers() {
        Due.sentence(32, "h (0 .. 8) HOURS. BAD; STATE");
        for (int h : new int[] {-1, 9, MIN, MAX}) {
            Refused.bad(Make::built, "most " + h, x -> x.most(h));
            Refused.bad(Make::unbuilt, "BAD ahead of STATE, most " + h, x -> x.most(h));
        }
        Refused.state(Make::unbuilt, "no houses, most 0", x -> x.most(0));
        Refused.state(Make::unbuilt, "no houses, most 8", x -> x.most(8));
        Refused.state(() -> Make.street("q99"), "a street of none", x -> x.most(4));
    }

    private static void mostOfNoneAndOfAll() {
        Due.sentence(32, "The PLAN of h HOURS; what is GROUND by asked()");
        RiverTuesdays x = wheel();
        for (int h = 0; h <= 8; h++) {
            Due.tells(x, "of " + h, x.most(h), (1 << h) - 1, 4 * h);
        }
        x = Make.street("q90 h900");
        for (int h = 0; h <= 8; h++) {
            Due.tells(x, "no mills, of " + h, x.most(h), (1 << h) - 1, 0);
        }
        x = wheel();
        x.hour(1);
        Due.tells(x, "not what was ground ahead of it", x.most(1), 1, 4);
        Due.is("it stays as it is", x.count(1), 1);
    }

    private static void mostOfAlikeOnes() {
        Due.sentence(32, "of alike ones that of less HARM, then the least");
        RiverTuesdays x = Make.street("q71 w326");
        Due.tells(x, "as much by 3", x.harm(3), 1, 6);
        Due.tells(x, "as much by 5", x.harm(5), 0, 6);
        Due.tells(x, "as much by 80", x.harm(80), 0, 6);
        Due.tells(x, "less by 160", x.harm(160), 0, 5);
        Due.tells(x, "of less harm, the least", x.most(2), 5, 6);
        x = Make.street("q43 m321");
        Due.tells(x, "more ground by 7", x.harm(7), 1, 4);
        Due.tells(x, "than by 21", x.harm(21), 0, 3);
        Due.tells(x, "ahead of less harm", x.most(3), 7, 4);
    }

    private static void mostFromAsItIs() {
        Due.sentence(32, "what is GROUND by asked() (in a TUESDAY from as it is)");
        RiverTuesdays x = Make.street("q69 m392");
        Due.tells(x, "3 by three hours side by side", x.harm(7), 1, 3);
        Due.tells(x, "4 by others", x.most(3), 11, 4);
        x = halfEmptied();
        Due.tells(x, "by what stands there", x.most(0), 0, 1);
    }

    /** 4 stand ahead of the wheel: 2, 1 and 1 of them run on if nothing comes. */
    private static RiverTuesdays halfEmptied() {
        RiverTuesdays x = Make.street("q90 w000");
        Due.is("4 stand", x.hour(1), 4);
        return x;
    }

    /** 9 stand ahead of the house, as high as its sill and as the sea. */
    private static RiverTuesdays brimful() {
        RiverTuesdays x = Make.street("q99 h099");
        Due.is("9 stand", x.hour(1), 9);
        return x;
    }

    // ---- 33 least

    private static void leastNumbers() {
        Due.sentence(33, "v (0 .. 99). BAD; STATE");
        for (int v : new int[] {-1, 100, MIN, MAX}) {
            Refused.bad(Make::built, "least " + v, x -> x.least(v));
            Refused.bad(Make::unbuilt, "BAD ahead of STATE, least " + v, x -> x.least(v));
        }
        Refused.state(Make::unbuilt, "no houses, least 0", x -> x.least(0));
        Refused.state(Make::unbuilt, "no houses, least 99", x -> x.least(99));
        Refused.state(() -> Make.street("q99"), "a street of none", x -> x.least(0));
    }

    private static void leastOrMore() {
        Due.sentence(33, "GRINDS v or more; NONE: none does");
        RiverTuesdays x = wheel();
        Due.tells(x, "0", x.least(0), 0, 0);
        for (int hours = 1; hours <= 8; hours++) {
            int plan = (1 << hours) - 1;
            Due.tells(x, "one less", x.least(4 * hours - 1), plan, 0);
            Due.tells(x, "as much", x.least(4 * hours), plan, 0);
        }
        Refused.none(SearchEdgesTest::wheel, "33 of 32", y -> y.least(33));
        Refused.none(SearchEdgesTest::wheel, "99 of 32", y -> y.least(99));
        Refused.none(() -> Make.street("q90 h900"), "1 without mills", y -> y.least(1));
    }

    private static void leastOfNinetyNine() {
        Due.sentence(33, "v (0 .. 99) or more");
        RiverTuesdays x = Make.street("q90w900w600w900w800w600");
        x.hour(1);
        x.hour(1);
        Due.tells(x, "all open", x.harm(255), 0, 99);
        Due.tells(x, "99 of 99", x.least(99), 255, 0);
        x = Make.street("q91w900w400w800w800w300w200w200");
        x.hour(1);
        Due.tells(x, "all open", x.harm(255), 0, 98);
        Due.tells(x, "98 of 98", x.least(98), 255, 0);
        Due.is("99 of 98", x.least(99), NONE);
        Due.is("asked stays", x.asked(), 0);
    }

    private static void leastOfAlikeOnes() {
        Due.sentence(33, "with least HARM (of alike ones that of fewest HOURS, then the least); "
                + "that HARM by asked()");
        RiverTuesdays x = Make.street("q62 w012");
        x.hour(1);
        x.hour(1);
        Due.tells(x, "enough by 15, four hours", x.harm(15), 0, 11);
        Due.tells(x, "enough by 21, three hours", x.harm(21), 0, 9);
        Due.tells(x, "enough by 84, three hours", x.harm(84), 0, 9);
        Due.tells(x, "of fewest hours, the least", x.least(9), 21, 0);
        x = Make.street("q99 s904 w900");
        Due.tells(x, "harm by one hour", x.harm(1), 8, 1);
        Due.tells(x, "the harm is told", x.least(1), 1, 8);
        x = Make.street("q43 m321");
        Due.tells(x, "three by 7, with harm", x.harm(7), 1, 4);
        Due.tells(x, "least harm ahead of fewest hours", x.least(4), 85, 0);
    }

    private static void leastFromAsItIs() {
        Due.sentence(33, "The PLAN that GRINDS v or more (in a TUESDAY from as it is)");
        RiverTuesdays x = halfEmptied();
        Due.tells(x, "1 by what stands there", x.least(1), 0, 0);
        Due.tells(x, "2 by one hour more", x.least(2), 1, 0);
        x = Make.street("q99 h009");
        Due.tells(x, "harm by others", x.harm(255), 9, 0);
        Due.tells(x, "none by none", x.least(0), 0, 0);
    }

    // ---- 34 dry

    private static void dryRefused() {
        Due.sentence(34, "STATE");
        Refused.state(Make::unbuilt, "no houses", x -> x.dry());
        Refused.state(() -> Make.street("q99"), "a street of none", x -> x.dry());
    }

    private static void dryOfNoneAndOfAll() {
        Due.sentence(34, "The most HOURS in which it can be OPEN without HARM; the PLAN (the "
                + "least) by asked()");
        dryIs(wheel(), 8, 255);
        dryIs(Make.street("q99 h001"), 0, 0);
        dryIs(Make.street("q99 h081"), 0, 0);
        dryIs(Make.street("q99 h091"), 1, 1);
        dryIs(Make.street("q43 m321"), 4, 85);
        dryIs(Make.street("q99 s000"), 8, 255);
        RiverTuesdays x = Make.street("q99 h001");
        x.hour(1);
        Due.tells(x, "a full cellar", x.dry(), 8, 255);
    }

    private static void dryIs(RiverTuesdays x, int hours, int plan) {
        Due.tells(x, "dry", x.dry(), hours, plan);
    }

    private static void dryNotEvenWithNone() {
        Due.sentence(34, "NONE: not even with none");
        Refused.none(SearchEdgesTest::aboveItsSill, "above its sill", x -> x.dry());
        RiverTuesdays x = aboveItsSill();
        x.sill(0, 9);
        Due.tells(x, "as high as its sill", x.dry(), 0, 0);
    }

    private static RiverTuesdays aboveItsSill() {
        RiverTuesdays x = Make.street("q99 h091");
        x.hour(1);
        x.sill(0, 8);
        x.water();
        x.house(0, 2);
        return x;
    }

    private static void dryFromAsItIs() {
        Due.sentence(34, "The most HOURS in which it can be OPEN without HARM (from as it is)");
        dryIs(Make.street("q99 h099"), 1, 1);
        dryIs(brimful(), 0, 0);
    }

    // ---- 35, 36, 37 led, sure, look

    private static int marksCall(RiverTuesdays x, int way, int r) {
        return way == LED ? x.led(r) : way == SURE ? x.sure(r) : x.look(r);
    }

    private static void sentence(int way, String words) {
        Due.sentence(35 + way, words);
    }

    /** All that comes stands ahead of the lock: its mark is how many hours were open. */
    private static RiverTuesdays shutLock(int... marks) {
        RiverTuesdays x = Make.street("q10 h900 l000");
        x.shut(1, 1);
        Make.row(x, 2, marks);
        return x;
    }

    private static void marksFind(int way, String what, int finding, int... marks) {
        Refused.finds(() -> shutLock(marks), what, finding, x -> marksCall(x, way, 2));
    }

    private static void marksNumbers(int way) {
        sentence(way, "BAD; STATE");
        for (int r : NO_ROWS) {
            Refused.bad(Make::built, "row " + r, x -> marksCall(x, way, r));
            Refused.bad(Make::unbuilt, "BAD ahead of STATE, row " + r, x -> marksCall(x, way, r));
        }
        Refused.state(Make::unbuilt, "no houses, a row", x -> marksCall(x, way, 0));
        Refused.state(Make::unbuilt, "no houses, a row of none", x -> marksCall(x, way, 1));
        Refused.state(Make::unbuilt, "STATE ahead of NOTHING", x -> marksCall(x, way, 2));
    }

    private static void marksNothing(int way) {
        sentence(way, "NOTHING");
        for (int r = 0; r <= 5; r++) {
            int row = r;
            Refused.finds(() -> Make.street("q10 h000"), "missing row " + r, Refused.NOTHING,
                    x -> marksCall(x, way, row));
        }
    }

    private static void marksSize(int way) {
        sentence(way, "SIZE: not as many as HOUSES (behind NOTHING, ahead of UNLIKE)");
        marksFind(way, "none of two", Refused.SIZE);
        marksFind(way, "one of two", Refused.SIZE, NONE);
        marksFind(way, "three of two", Refused.SIZE, NONE, NONE, NONE);
        marksFind(way, "one of two, unlike", Refused.SIZE, 1000);
        marksFind(way, "three of two, unlike", Refused.SIZE, -1, 1000, -10);
        marksFind(way, "sixty of two", Refused.SIZE, new int[60]);
    }

    private static void marksUnlike(int way) {
        sentence(way, "0 .. 999, or NONE; UNLIKE (ahead of NOUGHT)");
        for (int v : new int[] {-1, -8, -10, 1000, MIN, MAX}) {
            marksFind(way, "the first is " + v, Refused.UNLIKE, v, NONE);
            marksFind(way, "the last is " + v, Refused.UNLIKE, NONE, v);
            marksFind(way, "no plan fits, and " + v, Refused.UNLIKE, 999, v);
        }
        for (int v : new int[] {0, 1, 998, 999, NONE}) {
            RiverTuesdays x = shutLock(v, v);
            int got = marksCall(x, way, 2);
            Due.is(v + " is a mark", x.findings(Refused.UNLIKE), 0);
            Due.is(v + " is a mark, but none fits", got == RiverTuesdays.FINDING ? 1 : 0,
                    way != LED && v > 0 ? 1 : 0);
        }
    }

    private static void marksOfEveryRow(int way) {
        sentence(way, "From MARKS (a ROW)");
        int[] due = {256, 0, 0};
        for (int r = 0; r <= 5; r++) {
            RiverTuesdays x = Make.street("q10 h900");
            Make.row(x, r, NONE);
            Due.is("row " + r, marksCall(x, way, r), due[way]);
            Due.is("row " + r + ", told", x.asked(), way == LOOK ? 256 : 0);
            Due.row(x, "row " + r + " stays", r, NONE);
        }
    }

    private static void marksNought() {
        Due.sentence(36, "NOUGHT: no PLAN fits");
        marksFind(SURE, "one seen", Refused.NOUGHT, NONE, 9);
        marksFind(SURE, "both seen", Refused.NOUGHT, 1, 8);
        Due.sentence(37, "NOUGHT (ahead of NONE: all are seen)");
        marksFind(LOOK, "one seen", Refused.NOUGHT, NONE, 9);
        marksFind(LOOK, "both seen", Refused.NOUGHT, 1, 8);
    }

    private static void ledOfNoneAndOfAll() {
        Due.sentence(35, "how many PLANS fit; the least by asked() (NONE: none fits)");
        RiverTuesdays x = shutLock(NONE, NONE);
        Due.tells(x, "nothing seen", x.led(2), 256, 0);
        x = shutLock(0, 0);
        Due.tells(x, "one fits", x.led(2), 1, 0);
        x = shutLock(0, 8);
        Due.tells(x, "another one", x.led(2), 1, 255);
        x = shutLock(NONE, 1);
        Due.tells(x, "eight fit", x.led(2), 8, 1);
        x = shutLock(NONE, 7);
        Due.tells(x, "eight others", x.led(2), 8, 127);
        x = shutLock(0, 9);
        Due.tells(x, "none fits", x.led(2), 0, NONE);
        x = shutLock(999, NONE);
        Due.tells(x, "none fits 999", x.led(2), 0, NONE);
        Due.is("nothing was found", x.finding(), 0);
    }

    private static void ledFromAsItIs() {
        Due.sentence(35, "how many PLANS fit; the least by asked() (from as it is)");
        RiverTuesdays x = Make.street("q99 h000");
        Make.row(x, 0, 9);
        Due.tells(x, "any one hour", x.led(0), 8, 1);
        x.hour(1);
        Due.tells(x, "none", x.led(0), 1, 0);
        x = Make.street("q34 l410");
        Make.row(x, 0, 7);
        Due.tells(x, "all but the first, or all but the last", x.led(0), 2, 127);
    }

    // Places that a row had ahead of its marks are none of them.
    private static void marksOntoLongerRows(int way) {
        sentence(way, "From MARKS (that came to a ROW anew)");
        int[] due = {1, 255, NONE};
        String[] streets = {"q10 h900 l000", "q10 h900h900h900h900h900h900h900l000"};
        for (int v : new int[] {NONE, 0, 5, 1000}) {
            for (String street : streets) {
                RiverTuesdays x = Make.street(street);
                x.shut(x.count(0) - 1, 1);
                Make.fullRow(x, 4, v);
                Due.is("the greatest", x.marks(255, 4), 8);
                Due.is("over places of " + v, marksCall(x, way, 4), due[way]);
            }
        }
    }

    private static void sureOfOneAndOfAll() {
        Due.sentence(36, "HOURS in which it surely was OPEN then (bits); those in which it surely "
                + "was not by asked()");
        RiverTuesdays x = shutLock(NONE, 8);
        Due.tells(x, "all open", x.sure(2), 255, 0);
        x = shutLock(NONE, 0);
        Due.tells(x, "none open", x.sure(2), 0, 255);
        x = shutLock(NONE, NONE);
        Due.tells(x, "nothing seen", x.sure(2), 0, 0);
        x = shutLock(NONE, 7);
        Due.tells(x, "seven open, any of them", x.sure(2), 0, 0);
        // 4 stand there already; as many behind an hour only if the first one was open.
        x = Make.street("q20 l000");
        x.shut(0, 1);
        x.hour(1);
        x.hour(1);
        x.shut(0, 0);
        Make.row(x, 2, 4);
        Due.tells(x, "the first hour surely", x.sure(2), 1, 0);
        Make.row(x, 2, 2);
        Due.tells(x, "the first hour surely not", x.sure(2), 0, 1);
    }

    private static void lookAllSeen() {
        Due.sentence(37, "NONE: all are seen");
        Refused.none(() -> shutLock(0, 4), "both", x -> x.look(2));
        Refused.none(() -> shutLock(0, 0), "both dry", x -> x.look(2));
        RiverTuesdays x = shutLock(NONE, 4);
        Due.tells(x, "one is not", x.look(2), 0, 70);
        x = shutLock(0, NONE);
        Due.tells(x, "the other is not", x.look(2), 1, 70);
        x = shutLock(NONE, 8);
        Due.tells(x, "one plan alone", x.look(2), 0, 1);
    }

    private static void lookFirst() {
        Due.sentence(37, "of those not seen; the first; fewest PLANS are left at most; how many "
                + "by asked()");
        RiverTuesdays x = Make.street("q10 h900 h900 l000 l000");
        x.shut(2, 1);
        Make.row(x, 0, NONE, NONE, NONE, NONE);
        Due.tells(x, "the lock", x.look(0), 2, 70);
        Make.row(x, 0, NONE, NONE, 3, NONE);
        Due.tells(x, "of alike ones the first", x.look(0), 0, 56);
        Make.row(x, 0, 0, NONE, 3, NONE);
        Due.tells(x, "then the second", x.look(0), 1, 56);
        Make.row(x, 0, 0, 0, 3, NONE);
        Due.tells(x, "then the last", x.look(0), 3, 56);
    }

    private static void lookAtTheLast() {
        Due.sentence(37, "Which HOUSE's MARK to look at");
        RiverTuesdays x = Make.street("q10 h900h900h900h900h900h900h900l000");
        x.shut(7, 1);
        Make.row(x, 0, NONE, NONE, NONE, NONE, NONE, NONE, NONE, NONE);
        Due.tells(x, "the eighth", x.look(0), 7, 70);
        x.lay(0, 7, 2);
        Due.tells(x, "the first", x.look(0), 0, 28);
    }

    private static void lookOfNoneAndOne() {
        Due.sentence(37, "whatever it is (as it is by PLANS that fit), fewest PLANS are left at "
                + "most");
        RiverTuesdays x = Make.street("q11 h000");
        Make.row(x, 0, NONE);
        Due.tells(x, "0 by one plan, 1 by all others", x.look(0), 0, 255);
        x = Make.street("q90 l000");
        x.shut(0, 1);
        Make.row(x, 0, NONE);
        Due.tells(x, "0, 9, 18 .. 72", x.look(0), 0, 70);
    }

    // ---- 38 raise

    private static void raiseNumbers() {
        Due.sentence(38, "BAD (a PLAN, a ROW); STATE");
        for (int r : NO_ROWS) {
            Refused.bad(Make::built, "row " + r, x -> x.raise(0, r));
            Refused.bad(Make::unbuilt, "BAD ahead of STATE, row " + r, x -> x.raise(0, r));
        }
        Refused.state(Make::unbuilt, "no houses, row 0", x -> x.raise(0, 0));
        Refused.state(Make::unbuilt, "no houses, row 5", x -> x.raise(0, 5));
    }

    private static void raiseIs(Supplier<RiverTuesdays> from, int plan, int together, int... by) {
        for (int r = 0; r <= 5; r++) {
            RiverTuesdays x = from.get();
            int told = x.asked();
            Due.is("raise by plan " + plan, x.raise(plan, r), together);
            Due.is("nothing is told", x.asked(), told);
            Due.row(x, "raised by plan " + plan, r, by);
            Due.is("the sill stays", x.house(0, 2), 1);
            Due.is("harm stays", x.harm(plan) > 0 ? 1 : 0, together > 0 ? 1 : 0);
        }
    }

    private static void raiseByFour() {
        Due.sentence(38, "The fewest by which SILLS have to be raised together (0 .. 4); NONE: by "
                + "no more than 4");
        for (int sill = 5; sill <= 9; sill++) {
            int height = sill;
            raiseIs(() -> Make.street("q99 h0" + height + "9"), 1, 9 - sill, 9 - sill);
        }
        Refused.none(() -> Make.street("q99 h049"), "by 5", x -> x.raise(1, 2));
        Refused.none(() -> Make.street("q99 h009"), "by 9", x -> x.raise(1, 2));
        raiseIs(() -> highLock(8), 7, 4, 4);
        raiseIs(() -> highLock(7), 7, 1, 1);
        Refused.none(() -> highLock(9), "27 above a sill of 20", x -> x.raise(7, 2));
    }

    /** So many come in an hour, none run on; the sill is 20, and may be raised above that. */
    private static RiverTuesdays highLock(int flow) {
        RiverTuesdays x = Make.street("q" + flow + "0 l009");
        x.shut(0, 1);
        x.sill(0, 20);
        return x;
    }

    private static void raiseTogether() {
        Due.sentence(38, "raised together; by how much each (by HOUSES)");
        // Behind the first hour 4 stand ahead of house 0, 5 ahead of house 1.
        raiseIs(() -> Make.street("q99 h029 h039"), 1, 4, 2, 2);
        raiseIs(() -> Make.street("q99 h009 h099"), 1, 4, 4, 0);
        raiseIs(() -> Make.street("q99 h099 h019"), 1, 4, 0, 4);
        raiseIs(() -> Make.street("q99 h049 h059"), 1, 0, 0, 0);
        Refused.none(() -> Make.street("q99 h029 h029"), "by 2 and 3", x -> x.raise(1, 2));
        Refused.none(() -> Make.street("q99 h019 h039"), "by 3 and 2", x -> x.raise(1, 2));
    }

    private static void raiseNoRoom() {
        Due.sentence(38, "so that a TUESDAY does no HARM");
        raiseIs(() -> Make.street("q99 h000"), 255, 0, 0);
        raiseIs(() -> Make.street("q99 h009"), 0, 0, 0);
        raiseIs(SearchEdgesTest::fullCellar, 255, 0, 0);
        RiverTuesdays x = fullCellar();
        x.pump(0);
        Due.is("pumped out", x.raise(255, 0), NONE);
        raiseIs(() -> Make.street("q99 h051"), 1, 4, 4);
    }

    private static RiverTuesdays fullCellar() {
        RiverTuesdays x = Make.street("q99 h003");
        x.hour(1);
        return x;
    }

    private static void raiseFromAsItIs() {
        Due.sentence(38, "so that a TUESDAY does no HARM (from as it is)");
        raiseIs(() -> Make.street("q99 h099"), 1, 0, 0);
        raiseIs(SearchEdgesTest::brimful, 1, 4, 4);
        raiseIs(SearchEdgesTest::brimful, 0, 0, 0);
        RiverTuesdays x = Make.street("q10 h900h900h900h900h900h900h900l009");
        x.shut(7, 1);
        Due.is("of eight, the last", x.raise(15, 3), 4);
        Due.row(x, "of eight", 3, 0, 0, 0, 0, 0, 0, 0, 4);
        Due.is("of eight, by more", x.raise(31, 3), NONE);
    }

    private static void raiseToARow() {
        Due.sentence(38, "comes to a ROW (anew); NONE: a ROW stays as it is then");
        RiverTuesdays x = Make.street("q99 h059");
        Make.fullRow(x, 3, 66);
        Due.is("onto a row of 60", x.raise(1, 3), 4);
        Due.row(x, "one for each house", 3, 4);
        Make.row(x, 3, 5, 6, 7);
        Due.is("by more than 4", x.raise(255, 3), NONE);
        Due.row(x, "stays", 3, 5, 6, 7);
        Due.is("to a missing one", x.raise(255, 4), NONE);
        Due.finds(x, "stays missing", x.at(4, 0), Refused.NOTHING);
    }

    // ---- 39 whose

    private static void whoseFirst() {
        Due.sentence(39, "Whose SILL, raised by 1, makes HARM least (the first); that HARM by "
                + "asked()");
        RiverTuesdays x = Make.street("q99 h049 h059");
        Due.tells(x, "none is needed", x.whose(1), 0, 0);
        x = Make.street("q99 h049 h049");
        Due.tells(x, "the second is", x.whose(1), 1, 0);
        x = Make.street("q99 h039 h059");
        Due.tells(x, "the first is", x.whose(1), 0, 0);
        x = Make.street("q99 h000 h000 h000");
        Due.tells(x, "all alike", x.whose(255), 0, 0);
        x = Make.street("q99 h004");
        Due.tells(x, "of no use", x.whose(255), 0, 4);
        x = highLock(7);
        Due.tells(x, "above 20", x.whose(7), 0, 0);
        Due.is("the sill stays", Make.house(x, 0, 2), 20);
    }

    private static void whoseFromAsItIs() {
        Due.sentence(39, "makes HARM least (in a TUESDAY from as it is)");
        RiverTuesdays x = Make.street("q99 h099");
        Due.tells(x, "none", x.whose(1), 0, 0);
        x = brimful();
        Due.tells(x, "13 above a sill of 10", x.whose(1), 0, 3);
    }

    private static void whoseOfEight() {
        Due.sentence(39, "Whose SILL (of all HOUSES)");
        RiverTuesdays x = Make.street("q10 h900h900h900h900h900h900h900l019");
        x.shut(7, 1);
        Due.is("harm", x.harm(3), 1);
        Due.tells(x, "the eighth", x.whose(3), 7, 0);
        Due.tells(x, "not enough", x.whose(7), 7, 1);
    }
}
