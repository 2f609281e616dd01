/** What "Terms" says of an hour, and promises 18 to 22, at the edges that they name. */
public final class HourEdgesTest {
    private static final int MIN = Integer.MIN_VALUE, MAX = Integer.MAX_VALUE;
    private static final int BAD = RiverTuesdays.BAD, FULL = RiverTuesdays.FULL;

    public static void main(String[] args) {
        flowComes();
        levels();
        noMoreThanThereIs();
        atOnce();
        dams();
        locks();
        sills();
        cellars();
        cellarsLast();
        mills();
        wheels();
        hourRefused();
        hourFull();
        hourOfTuesdaysFull();
        undoNumbers();
        undoAllOfSixty();
        undoStays();
        undoPumped();
        undoGoesOn();
        water();
        keepNumbers();
        onNumbers();
        keepOfNoHoursAndOfSixty();
        keptApart();
        onWithItsHours();
        onAgain();
        Due.end("HourEdgesTest");
    }

    /** One hour down a street: what stands ahead of all houses, and what ran out. */
    private static RiverTuesdays hourIs(String street, int open, int stands, int out) {
        RiverTuesdays x = Make.street(street);
        Due.tells(x, street, x.hour(open), stands, out);
        return x;
    }

    // ---- an hour

    private static void flowComes() {
        Due.term("first, if OPEN, the FLOW comes to HOUSE 0");
        hourIs("q19 h000", 1, 1, 0);
        hourIs("q99 h000", 1, 9, 0);
        hourIs("q99 h000", 0, 0, 0);
        RiverTuesdays x = hourIs("q99 h000 h900", 1, 9, 0);
        Due.is("all at house 0", Make.house(x, 0, 4), 9);
    }

    private static void levels() {
        Due.term("if its LEVEL is above that of the next one, the half of the difference, rounded "
                + "up, runs on there");
        hourIs("q15 h200", 1, 1, 0);
        hourIs("q25 h200", 1, 2, 0);
        hourIs("q35 h200", 1, 3, 0);
        hourIs("q45 h200", 1, 3, 1);
        hourIs("q55 h200", 1, 4, 1);
        hourIs("q65 h200", 1, 4, 2);
        hourIs("q75 h200", 1, 5, 2);
        hourIs("q90 h000", 1, 4, 5);
        int[] runsOn = {0, 0, 0, 1, 1, 2, 2, 3, 3};
        for (int flow = 1; flow <= 9; flow++) {
            RiverTuesdays x = Make.street("q" + flow + "9 h200 h500");
            x.hour(1);
            Due.is("runs on of " + flow, Make.house(x, 1, 4), runsOn[flow - 1]);
            Due.is("stays of " + flow, Make.house(x, 0, 4), flow - runsOn[flow - 1]);
        }
        RiverTuesdays x = Make.street("q49 h000 h000");
        x.hour(1);
        Due.is("2 of 4", Make.house(x, 1, 4), 2);
        x.hour(0);
        Due.is("nothing between alike ones", Make.house(x, 1, 4), 2);
        x.hour(1);
        Due.is("2 of the 4 that 6 are above 2", Make.house(x, 1, 4), 4);
    }

    private static void noMoreThanThereIs() {
        Due.term("but no more than the WATER ahead of it");
        hourIs("q10 h900", 1, 0, 1);
        hourIs("q30 h400", 1, 0, 3);
        hourIs("q40 h400", 1, 0, 4);
        hourIs("q50 h400", 1, 0, 5);
        hourIs("q60 h400", 1, 1, 5);
        hourIs("q10 h900", 0, 0, 0);
    }

    private static void atOnce() {
        Due.term("HOUSE by HOUSE, from 0 on; runs on there (at once); what runs into the SEA is "
                + "out");
        hourIs("q90 h900 h600 h300", 1, 3 + 1 + 1, 4);
        hourIs("q10 h100 h100 h100 h100 h100 h100 h100 h100", 1, 0, 1);
        RiverTuesdays x = hourIs("q80 h000 h000 h000", 1, 7, 1);
        Due.is("4 of 8 stay", Make.house(x, 0, 4), 4);
        Due.is("2 of 4 stay", Make.house(x, 1, 4), 2);
        Due.is("1 of 2 stays", Make.house(x, 2, 4), 1);
    }

    private static void dams() {
        Due.term("a DAM lets 2 run on at most");
        hourIs("q10 d000", 1, 0, 1);
        hourIs("q20 d000", 1, 1, 1);
        hourIs("q30 d000", 1, 1, 2);
        hourIs("q40 d000", 1, 2, 2);
        hourIs("q50 d000", 1, 3, 2);
        hourIs("q90 d900", 1, 7, 2);
        hourIs("q10 d900", 1, 0, 1);
        hourIs("q11 d000", 1, 1, 0);
        for (String kind : new String[] {"h", "m", "s", "w"}) {
            hourIs("q90 " + kind + "900", 1, 0, 9);
            hourIs("q50 " + kind + "000", 1, 2, 3);
        }
    }

    private static void locks() {
        Due.term("a LOCK that is SHUT none (else as a DAM)");
        hourIs("q20 l000", 1, 1, 1);
        hourIs("q30 l000", 1, 1, 2);
        hourIs("q50 l000", 1, 3, 2);
        RiverTuesdays x = Make.street("q90 l900 h900");
        x.shut(0, 1);
        Due.tells(x, "a shut one", x.hour(1), 9, 0);
        Due.is("none ran on", Make.house(x, 1, 4), 0);
        Due.tells(x, "stays shut", x.hour(1), 18, 0);
        x.shut(0, 0);
        Due.tells(x, "not shut any more", x.hour(0), 16, 2);
    }

    private static void sills() {
        Due.term("what WATER is above its SILL goes into its cellar");
        for (int sill = 0; sill <= 9; sill++) {
            RiverTuesdays x = hourIs("q99 h0" + sill + "9", 1, sill, 0);
            Due.is("above sill " + sill, Make.house(x, 0, 5), 9 - sill);
        }
        RiverTuesdays x = hourIs("q49 h059", 1, 4, 0);
        Due.is("below its sill", Make.house(x, 0, 5), 0);
    }

    private static void cellars() {
        Due.term("as long as that has room (0 to CELLAR)");
        for (int cellar = 0; cellar <= 9; cellar++) {
            RiverTuesdays x = hourIs("q59 h00" + cellar, 1, Math.max(5 - cellar, 0), 0);
            Due.is("in a cellar of " + cellar, Make.house(x, 0, 5), Math.min(cellar, 5));
        }
        RiverTuesdays x = hourIs("q49 h009", 1, 0, 0);
        Due.tells(x, "8 of 9", x.hour(1), 0, 0);
        Due.tells(x, "9 of 9", x.hour(1), 3, 0);
        Due.tells(x, "full", x.hour(1), 7, 0);
        Due.is("no more than 9", Make.house(x, 0, 5), 9);
    }

    private static void cellarsLast() {
        Due.term("Last, HOUSE by HOUSE: what WATER is above its SILL");
        RiverTuesdays x = hourIs("q80 h009 h009", 1, 0, 2);
        Due.is("4 ran on first, 4 are left", Make.house(x, 0, 5), 4);
        Due.is("of the 4, 2 ran out, 2 are left", Make.house(x, 1, 5), 2);
        x = hourIs("q90 h909", 1, 0, 9);
        Due.is("all ran out first", Make.house(x, 0, 5), 0);
    }

    private static void mills() {
        Due.term("A MILL GRINDS 1 in an HOUR in which 2 or more run on from it");
        int[] grinds = {0, 1, 1, 1, 1, 1, 1, 1, 1};
        for (int flow = 1; flow <= 9; flow++) {
            RiverTuesdays x = Make.street("q" + flow + "0 m900");
            x.hour(1);
            Due.is(flow + " run on", Make.house(x, 0, 6), grinds[flow - 1]);
            x.hour(0);
            Due.is("none run on", Make.house(x, 0, 6), grinds[flow - 1]);
            x.hour(1);
            Due.is(flow + " run on again", Make.house(x, 0, 6), 2 * grinds[flow - 1]);
        }
        for (String kind : new String[] {"h", "s", "d", "l"}) {
            RiverTuesdays x = Make.street("q90 " + kind + "900");
            x.hour(1);
            Due.is(kind + " grinds nothing", Make.house(x, 0, 6), 0);
        }
    }

    private static void wheels() {
        Due.term("a WHEEL 1 for each 2 that do");
        int[] grinds = {0, 1, 1, 2, 2, 3, 3, 4, 4};
        for (int flow = 1; flow <= 9; flow++) {
            RiverTuesdays x = Make.street("q" + flow + "0 w900");
            x.hour(1);
            Due.is(flow + " run on", Make.house(x, 0, 6), grinds[flow - 1]);
            x.hour(1);
            Due.is("hour by hour, odd ones are lost", Make.house(x, 0, 6), 2 * grinds[flow - 1]);
        }
    }

    // ---- 18 hour

    private static void hourRefused() {
        Due.sentence(18, "the sluice OPEN (1) or not (0). BAD; STATE: no HOUSES");
        for (int open : new int[] {-1, 2, MIN, MAX}) {
            Refused.bad(Make::built, "open " + open, x -> x.hour(open));
            Refused.bad(Make::unbuilt, "BAD ahead of STATE, open " + open, x -> x.hour(open));
            Refused.bad(HourEdgesTest::sixty, "BAD ahead of FULL, open " + open, x -> x.hour(open));
        }
        Refused.state(Make::unbuilt, "no houses, open", x -> x.hour(1));
        Refused.state(Make::unbuilt, "no houses, not open", x -> x.hour(0));
        Refused.state(() -> Make.street("q99"), "a street of none", x -> x.hour(1));
    }

    private static RiverTuesdays sixty() {
        return Make.ofHours(60);
    }

    private static void hourFull() {
        Due.sentence(18, "FULL: 60 HOURS. (FULL last.)");
        Refused.full(HourEdgesTest::sixty, "the 61st, open", x -> x.hour(1));
        Refused.full(HourEdgesTest::sixty, "the 61st, not open", x -> x.hour(0));
        RiverTuesdays x = Make.ofHours(59);
        Due.tells(x, "the 60th", x.hour(1), 2, 2);
        Due.is("60 hours", x.count(1), 60);
        Due.is("the 61st", x.hour(1), FULL);
        Due.is("undo the last", x.undo(59), 1);
        Due.tells(x, "the 60th again", x.hour(0), 0, 1);
        Due.is("the 61st again", x.hour(0), FULL);
    }

    private static void hourOfTuesdaysFull() {
        Due.sentence(18, "FULL: 60 HOURS (those of Tuesdays, too)");
        RiverTuesdays x = Make.street("q10 h000");
        for (int n = 0; n < 7; n++) {
            x.tuesday(0);
        }
        for (int n = 56; n < 60; n++) {
            Due.is("hour " + n, x.hour(0), 0);
        }
        Due.is("hour 60", x.hour(0), FULL);
    }

    // ---- 19 undo

    private static void undoNumbers() {
        Due.sentence(19, "n 0 to how many there are: then 0; BAD");
        for (int n : new int[] {-1, 5, MIN, MAX}) {
            Refused.bad(Make::built, "undo " + n + " of 4", x -> x.undo(n));
        }
        for (int n : new int[] {-1, 1, MIN, MAX}) {
            Refused.bad(Make::unbuilt, "no houses, undo " + n, x -> x.undo(n));
        }
        Due.is("no houses, undo 0", Make.unbuilt().undo(0), 0);
        for (int n = 0; n <= 4; n++) {
            RiverTuesdays x = Make.built();
            Due.is("undo " + n + " of 4", x.undo(n), 4 - n);
            Due.is("so many are left", x.count(1), n);
            Due.is("asked stays", x.asked(), 77);
            Due.is("again", x.undo(n), 0);
            Due.is("one more", x.undo(n + 1), BAD);
        }
        RiverTuesdays x = Make.built();
        long before = x.digest();
        Due.is("undo 4 of 4", x.undo(4), 0);
        Due.is("nothing has changed", x.digest(), before);
    }

    private static void undoAllOfSixty() {
        Due.sentence(19, "HOURS from number n on are undone: how many");
        RiverTuesdays x = Make.ofHours(60);
        Due.is("undo 61 of 60", x.undo(61), BAD);
        Due.is("undo 60 of 60", x.undo(60), 0);
        Due.is("undo 59 of 60", x.undo(59), 1);
        Due.tells(x, "the last one brought all", x.water(), 0, 0);
        Due.is("undo 0 of 59", x.undo(0), 59);
        Due.is("none is left", x.count(1), 0);
        Due.is("the first anew", x.hour(1), 1);
    }

    private static void undoStays() {
        Due.sentence(19, "WATER, cellars, what was GROUND, in, out, as ahead of it; SILLS, FLOW, "
                + "LOCKS stay");
        RiverTuesdays x = Make.street("q92 w313 l012");
        x.hour(1);
        int[] before = waters(x);
        x.hour(1);
        x.hour(0);
        x.sill(0, 17);
        x.flow(4);
        x.shut(1, 1);
        x.hour(1);
        Due.is("undo three", x.undo(1), 3);
        int[] after = waters(x);
        for (int n = 0; n < before.length; n++) {
            Due.is("as ahead of hour 1, " + n, after[n], before[n]);
        }
        Due.is("the sill stays", x.sill(0, 17), 17);
        Due.is("the flow stays", x.flow(4), 4);
        Due.is("the lock stays shut", x.shut(1, 1), 1);
    }

    private static int[] waters(RiverTuesdays x) {
        return new int[] {Make.house(x, 0, 4), Make.house(x, 0, 5), Make.house(x, 0, 6),
            Make.house(x, 1, 4), Make.house(x, 1, 5), Make.house(x, 1, 6), x.water(), Make.out(x)};
    }

    private static void undoPumped() {
        Due.sentence(19, "pumped WATER, too");
        RiverTuesdays x = Make.street("q99 h004");
        x.hour(1);
        x.pump(0);
        x.hour(0);
        Due.is("4 pumped out between, 4 more came", Make.house(x, 0, 5), 4);
        x.pump(0);
        Due.is("8 are out", Make.out(x), 8);
        Due.is("no hour is undone", x.undo(2), 0);
        Due.is("8 are out still", Make.out(x), 8);
        Due.is("one is undone", x.undo(1), 1);
        Due.is("what was pumped ahead of it is out", Make.out(x), 4);
        Due.is("and not in the cellar", Make.house(x, 0, 5), 0);
        Due.is("the other is undone", x.undo(0), 1);
        Due.is("nothing is out", Make.out(x), 0);
    }

    private static void undoGoesOn() {
        Due.sentence(19, "HOURS are undone (others may come)");
        RiverTuesdays x = Make.street("q61 m521 s413");
        RiverTuesdays y = Make.street("q61 m521 s413");
        x.hour(1);
        x.hour(0);
        x.hour(0);
        x.undo(1);
        x.hour(1);
        y.hour(1);
        y.hour(1);
        Due.is("as if those had been all", x.digest(), y.digest());
        x.undo(0);
        y.undo(0);
        x.hour(0);
        y.hour(0);
        Due.is("whether it was open, too", x.digest(), y.digest());
    }

    // ---- 20 water

    private static void water() {
        Due.sentence(20, "All WATER that came in; all that went out (pumped, too)");
        RiverTuesdays x = Make.unbuilt();
        Due.tells(x, "no houses", x.water(), 0, 0);
        x = Make.street("q99 l009");
        Due.tells(x, "no hours", x.water(), 0, 0);
        x.shut(0, 1);
        for (int n = 0; n < 60; n++) {
            x.hour(1);
        }
        Due.tells(x, "60 times 9", x.water(), 540, 0);
        Due.is("a full cellar", x.pump(0), 9);
        Due.tells(x, "pumped out", x.water(), 540, 9);
    }

    // ---- 21, 22 keep, on

    private static void keepNumbers() {
        Due.sentence(21, "kept in a place (0 .. 2). BAD; STATE: no HOUSES");
        for (int k : new int[] {-1, 3, MIN, MAX}) {
            Refused.bad(Make::built, "keep " + k, x -> x.keep(k));
            Refused.bad(Make::unbuilt, "BAD ahead of STATE, keep " + k, x -> x.keep(k));
        }
        for (int k = 0; k <= 2; k++) {
            int place = k;
            Refused.state(Make::unbuilt, "no houses, keep " + k, x -> x.keep(place));
            RiverTuesdays x = Make.street("q10 h000");
            Due.is("keep " + k, x.keep(k), 0);
            Due.is("one is kept", x.count(5), 1);
            Due.is("on " + k, x.on(k), 0);
        }
        Refused.state(() -> Make.street("q99"), "a street of none", x -> x.keep(0));
    }

    private static void onNumbers() {
        Due.sentence(22, "BAD; NOTHING");
        for (int k : new int[] {-1, 3, MIN, MAX}) {
            Refused.bad(Make::built, "on " + k, x -> x.on(k));
        }
        Refused.finds(Make::built, "on 0", Refused.NOTHING, x -> x.on(0));
        Refused.finds(Make::built, "on 2", Refused.NOTHING, x -> x.on(2));
        for (int k = 0; k <= 2; k++) {
            int place = k;
            Refused.finds(Make::unbuilt, "no houses, on " + k, Refused.NOTHING, x -> x.on(place));
        }
        Due.is("on 1", Make.built().on(1), 2);
    }

    private static void keepOfNoHoursAndOfSixty() {
        Due.sentence(21, "The STREET (all but ROWS, TEXTS) is kept in a place: how many HOURS");
        RiverTuesdays x = Make.ofHours(60);
        Due.is("keep 60", x.keep(2), 60);
        long sixty = x.digest();
        x.undo(0);
        Due.is("keep none", x.keep(0), 0);
        Due.is("on 60", x.on(2), 60);
        Due.is("the 61st", x.hour(0), FULL);
        Due.is("undo one of 60", x.undo(59), 1);
        Due.is("the last one brought all", x.water(), 0);
        Due.is("on none", x.on(0), 0);
        Due.is("none to undo", x.undo(0), 0);
        x.on(2);
        Due.is("two are kept now", x.digest() == sixty ? 1 : 0, 0);
        Due.is("asked is no part of it", x.asked(), 0);
    }

    private static void keptApart() {
        Due.sentence(22, "The STREET is as it was kept");
        RiverTuesdays x = Make.street("q93 w213 l012 s109");
        x.hour(1);
        x.keep(0);
        x.keep(1);
        x.keep(2);
        long kept = x.digest();
        x.hour(1);
        x.pump(0);
        x.sill(2, 20);
        x.flow(1);
        x.shut(1, 1);
        x.tuesday(255);
        Due.is("on", x.on(1), 1);
        Due.is("all of it as it was", x.digest(), kept);
        x.hour(0);
        x.keep(1);
        Due.is("the newer one", x.on(1), 2);
        Due.is("the older ones stay", x.on(0), 1);
        Due.is("all three are kept", x.count(5), 3);
        x.undo(0);
        Due.is("the third, too", x.on(2), 1);
    }

    private static void onWithItsHours() {
        Due.sentence(22, "The STREET is as it was kept (with its HOURS, which can be undone)");
        RiverTuesdays x = Make.street("q61 m521 s413");
        int[] stands = {2, 3, 5, 2};
        for (int n = 0; n < 4; n++) {
            Due.is("hour " + n, x.hour(n < 3 ? 1 : 0), stands[n]);
        }
        x.keep(1);
        long kept = x.digest();
        x.undo(0);
        for (int n = 0; n < 5; n++) {
            Due.is("other hours", x.hour(0), 0);
        }
        Due.is("on", x.on(1), 4);
        Due.is("whether they were open, too", x.digest(), kept);
        for (int n = 3; n >= 1; n--) {
            Due.is("undo hour " + n, x.undo(n), 1);
            Due.is("as behind hour " + (n - 1), Make.house(x, 0, 4) + Make.house(x, 1, 4),
                    stands[n - 1]);
        }
        x.undo(0);
        x.hour(0);
        Due.is("on again", x.on(1), 4);
        Due.is("kept as it was", x.digest(), kept);
    }

    private static void onAgain() {
        Due.sentence(22, "The STREET is as it was kept (ROWS, TEXTS are as they are)");
        RiverTuesdays x = Make.built();
        Make.row(x, 0, 1);
        Make.text(x, 3, "q99");
        x.tear(5);
        x.at(0, 0);
        Due.is("on", x.on(1), 2);
        Due.row(x, "a row", 0, 1);
        Due.is("a torn one", x.tear(5), RiverTuesdays.FINDING);
        Due.is("a text", x.put(3, 0, 0), 1000 + 'q');
        Due.is("asked stays", x.asked(), 1);
        int found = x.findings(1);
        x.hour(1);
        Due.is("on again, from the same", x.on(1), 2);
        Due.is("findings stay", x.findings(1), found);
    }
}
