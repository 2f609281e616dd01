import java.util.function.ToIntBiFunction;

/** What "Terms" says of a Tuesday, and promises 23 to 31, at the edges that they name. */
public final class PlanEdgesTest {
    private static final int MIN = Integer.MIN_VALUE, MAX = Integer.MAX_VALUE;
    private static final int BAD = RiverTuesdays.BAD, NONE = RiverTuesdays.NONE;
    private static final int FULL = RiverTuesdays.FULL;
    private static final int[] NO_PLANS = {-1, 256, MIN, MAX};

    public static void main(String[] args) {
        plansOfAllCalls();
        plansByBits();
        asideBehindSixtyHours();
        asideStaysAsItIs();
        harmTwiceForShops();
        harmOfTheTuesdayAlone();
        wetOfAll();
        wetOnlyByWaterInIt();
        whenNumbers();
        whenFirstAndLast();
        cutNumbers();
        cutOffByTwo();
        cutOfAll();
        boatNumbers();
        boatFromTo();
        tradeFirst();
        tradePairs();
        marksNumbers();
        marksBehindHours();
        marksToARow();
        stands();
        tuesdayNumbers();
        tuesdayFull();
        tuesdayTruly();
        Due.end("PlanEdgesTest");
    }

    // ---- a plan

    private static void planned(String call, boolean hasState,
            ToIntBiFunction<RiverTuesdays, Integer> by) {
        for (int plan : NO_PLANS) {
            Refused.bad(Make::built, call + " " + plan, x -> by.applyAsInt(x, plan));
            Refused.bad(Make::unbuilt, "no houses, " + call + " " + plan,
                    x -> by.applyAsInt(x, plan));
        }
        for (int plan : new int[] {0, 255}) {
            RiverTuesdays x = Make.built();
            Due.is(call + " " + plan + " is taken", by.applyAsInt(x, plan) == BAD ? 1 : 0, 0);
            if (hasState) {
                Refused.state(Make::unbuilt, "no houses, " + call + " " + plan,
                        y -> by.applyAsInt(y, plan));
                Refused.state(() -> Make.street("q99"), "a street of none, " + call + " " + plan,
                        y -> by.applyAsInt(y, plan));
            } else {
                Refused.bad(Make::unbuilt, "no houses, " + call + " " + plan,
                        y -> by.applyAsInt(y, plan));
            }
        }
    }

    private static void plansOfAllCalls() {
        Due.term("A PLAN is a set of HOURS 0 .. 7 (bits); BAD ahead of STATE");
        planned("harm", true, (x, plan) -> x.harm(plan));
        planned("wet", true, (x, plan) -> x.wet(plan));
        planned("when", false, (x, plan) -> x.when(plan, 0));
        planned("cut", true, (x, plan) -> x.cut(plan, 0));
        planned("boat", false, (x, plan) -> x.boat(plan, 0, 0, 0));
        planned("trade", true, (x, plan) -> x.trade(plan));
        planned("marks", true, (x, plan) -> x.marks(plan, 0));
        planned("stands", true, (x, plan) -> x.stands(plan));
        planned("tuesday", true, (x, plan) -> x.tuesday(plan));
        planned("raise", true, (x, plan) -> x.raise(plan, 0));
        planned("whose", true, (x, plan) -> x.whose(plan));
    }

    private static void plansByBits() {
        Due.term("a set of HOURS 0 .. 7 of a TUESDAY (bits) in which the sluice is OPEN");
        for (int h = 0; h < 8; h++) {
            RiverTuesdays x = Make.street("q29 h000");
            for (int behind = 0; behind < 8; behind++) {
                Due.is("hour " + h + " open, cut off behind " + behind,
                        x.cut(1 << h, behind), behind >= h ? 1 : 0);
            }
        }
        RiverTuesdays x = Make.street("q10 w900");
        Due.tells(x, "all open", x.stands(255), 0, 8);
        Due.tells(x, "none open", x.stands(0), 0, 0);
        Due.tells(x, "every other one open", x.stands(85), 0, 4);
    }

    private static void asideBehindSixtyHours() {
        Due.term("A TUESDAY by a PLAN: 8 HOURS, from as it is (aside, so never FULL)");
        RiverTuesdays x = Make.ofHours(60);
        Due.tells(x, "harm", x.harm(255), 0, 0);
        Due.tells(x, "stands", x.stands(1), 0, 4);
        Due.tells(x, "cut", x.cut(1, 0), 1, 1);
        Due.tells(x, "most", x.most(8), 255, 0);
        Due.tells(x, "dry", x.dry(), 8, 255);
        Due.is("marks", x.marks(1, 0), 2);
        Due.is("when", x.when(255, 0), NONE);
        Due.tells(x, "years", x.years(1, 1), 0, NONE);
        Due.is("tuesday", x.tuesday(1), FULL);
    }

    private static void asideStaysAsItIs() {
        Due.term("it stays as it is, if not told otherwise");
        RiverTuesdays x = Make.built();
        long before = x.digest();
        for (int plan : new int[] {0, 1, 128, 255}) {
            x.harm(plan);
            x.wet(plan);
            x.when(plan, 5);
            x.cut(plan, 7);
            x.boat(plan, 7, 0, 5);
            x.trade(plan);
            x.stands(plan);
            Due.is("behind plan " + plan, x.digest(), before);
        }
    }

    // ---- 23 harm

    private static void harmTwiceForShops() {
        Due.sentence(23, "what came into all cellars in it; a SHOP's counts twice");
        for (String kind : new String[] {"h", "m", "d", "w", "l"}) {
            RiverTuesdays x = Make.street("q99 " + kind + "009");
            Due.tells(x, "into " + kind, x.harm(1), 9, 0);
        }
        RiverTuesdays x = Make.street("q99 s009");
        Due.tells(x, "into a shop's", x.harm(1), 18, 0);
        Due.tells(x, "no more than it has room for", x.harm(255), 18, 0);
        Due.tells(x, "none", x.harm(0), 0, 0);
        x = Make.street("q99 s001 h001");
        Due.tells(x, "into both", x.harm(1), 3, 0);
    }

    private static void harmOfTheTuesdayAlone() {
        Due.sentence(23, "The HARM of a TUESDAY; what is GROUND in it by asked()");
        RiverTuesdays x = Make.street("q90 w900 h009");
        x.hour(1);
        x.hour(1);
        int ground = Make.house(x, 0, 6);
        Due.is("ground ahead of it", ground > 0 ? 1 : 0, 1);
        Due.tells(x, "nothing comes", x.harm(0), 0, 0);
        x = Make.street("q99 h008");
        x.hour(1);
        Due.tells(x, "full ahead of it", x.harm(255), 0, 0);
        x.pump(0);
        Due.tells(x, "pumped out ahead of it", x.harm(255), 8, 0);
        Due.tells(x, "what stands goes in, too", x.harm(0), 1, 0);
    }

    // ---- 24 wet

    private static void wetOfAll() {
        Due.sentence(24, "HOUSES that are WET at its end (bits); how many by asked()");
        RiverTuesdays x = Make.street("q99 h001h001h001h001h001h001h001h001");
        Due.tells(x, "all eight", x.wet(255), 255, 8);
        Due.tells(x, "none", x.wet(0), 0, 0);
        x = Make.street("q19 h001 h001");
        Due.tells(x, "the last one alone", x.wet(1), 2, 1);
        x = Make.street("q99 h001");
        Due.tells(x, "in its last hour", x.wet(128), 1, 1);
    }

    private static void wetOnlyByWaterInIt() {
        Due.sentence(24, "WET, if its cellar got WATER in the TUESDAY so far");
        RiverTuesdays x = Make.street("q99 h004");
        x.hour(1);
        Due.is("4 are in it ahead of it", Make.house(x, 0, 5), 4);
        Due.tells(x, "not wet by them", x.wet(255), 0, 0);
        x.pump(0);
        Due.tells(x, "by what stands", x.wet(0), 1, 1);
        x = Make.street("q99 h000");
        Due.tells(x, "no cellar", x.wet(255), 0, 0);
        x = Make.street("q99 h099");
        Due.tells(x, "as high as its sill", x.wet(1), 0, 0);
        x.sill(0, 8);
        Due.tells(x, "one above its sill", x.wet(1), 1, 1);
    }

    // ---- 25 when

    private static void whenNumbers() {
        Due.sentence(25, "BAD (a PLAN, a HOUSE)");
        for (int i : new int[] {-1, 6, 8, MIN, MAX}) {
            Refused.bad(Make::built, "house " + i, x -> x.when(0, i));
            Refused.bad(Make::unbuilt, "no houses, house " + i, x -> x.when(0, i));
        }
    }

    private static void whenFirstAndLast() {
        Due.sentence(25, "The HOUR in which a HOUSE becomes WET; NONE: it does not");
        RiverTuesdays x = Make.street("q99 h009 h091");
        for (int h = 0; h < 8; h++) {
            Due.is("hour " + h + " alone", x.when(1 << h, 0), h);
            Due.is("from hour " + h + " on", x.when(256 - (1 << h), 0), h);
        }
        Refused.none(() -> Make.street("q99 h009"), "never open", y -> y.when(0, 0));
        Refused.none(() -> Make.street("q99 h000"), "no cellar", y -> y.when(255, 0));
        Due.is("the other house, by none", x.when(1, 1), NONE);
        Due.is("the last of eight", Make.street("q99 h000h000h000h000h000h000h000h001")
                .when(255, 7) >= 0 ? 1 : 0, 1);
        Due.is("behind the last of eight", Make.street("q99 h000h000h000h000h000h000h000h001")
                .when(255, 8), BAD);
    }

    // ---- 26 cut

    private static void cutNumbers() {
        Due.sentence(26, "behind an HOUR (0 .. 7; bits). BAD; STATE");
        for (int hour : new int[] {-1, 8, MIN, MAX}) {
            Refused.bad(Make::built, "hour " + hour, x -> x.cut(0, hour));
            Refused.bad(Make::unbuilt, "BAD ahead of STATE, hour " + hour, x -> x.cut(0, hour));
        }
        Refused.state(Make::unbuilt, "no houses, hour 0", x -> x.cut(0, 0));
        Refused.state(Make::unbuilt, "no houses, hour 7", x -> x.cut(0, 7));
        RiverTuesdays x = Make.street("q99 h000");
        Due.tells(x, "behind hour 0", x.cut(254, 0), 0, 0);
        Due.tells(x, "behind hour 7", x.cut(128, 7), 1, 1);
        Due.tells(x, "behind hour 6", x.cut(128, 6), 0, 0);
    }

    private static void cutOffByTwo() {
        Due.term("CUT OFF, if 2 or more of WATER stand ahead of it");
        for (int flow = 1; flow <= 9; flow++) {
            RiverTuesdays x = Make.street("q" + flow + "9 h000");
            Due.tells(x, flow + " stand", x.cut(1, 0), flow >= 2 ? 1 : 0, flow >= 2 ? 1 : 0);
        }
        RiverTuesdays x = Make.street("q99 h019");
        Due.tells(x, "1 ahead, 8 below", x.cut(1, 0), 0, 0);
        x.sill(0, 2);
        Due.tells(x, "2 ahead, 7 below", x.cut(1, 0), 1, 1);
    }

    private static void cutOfAll() {
        Due.sentence(26, "HOUSES that are CUT OFF (bits); how many by asked()");
        RiverTuesdays x = flooded();
        Due.tells(x, "all eight", x.cut(0, 0), 255, 8);
        x = Make.street("q39 h000 h000");
        Due.tells(x, "the last one alone", x.cut(1, 0), 2, 1);
    }

    /** Eight houses, with much water ahead of each. */
    private static RiverTuesdays flooded() {
        RiverTuesdays x = Make.street("q99 h000h000h000h000h000h000h000h000");
        x.tuesday(255);
        x.tuesday(255);
        return x;
    }

    // ---- 27 boat

    private static void boatNumbers() {
        Due.sentence(27, "BAD (a PLAN, an HOUR, a HOUSE)");
        for (int v : new int[] {-1, 8, MIN, MAX}) {
            Refused.bad(PlanEdgesTest::flooded, "hour " + v, x -> x.boat(0, v, 0, 0));
            Refused.bad(PlanEdgesTest::flooded, "from " + v, x -> x.boat(0, 0, v, 0));
            Refused.bad(PlanEdgesTest::flooded, "to " + v, x -> x.boat(0, 0, 0, v));
        }
        Refused.bad(Make::built, "from 6 of 6", x -> x.boat(0, 0, 6, 0));
        Refused.bad(Make::built, "to 6 of 6", x -> x.boat(0, 0, 0, 6));
        Refused.bad(Make::unbuilt, "no houses", x -> x.boat(0, 0, 0, 0));
        RiverTuesdays x = flooded();
        Due.is("hour 0, from the first to the last", x.boat(0, 0, 0, 7), 1);
        Due.is("hour 7, from the last to the first", x.boat(255, 7, 7, 0), 1);
        Due.is("the last one", x.boat(255, 7, 7, 7), 1);
        Due.is("nothing is told", x.asked(), 0);
    }

    private static void boatFromTo() {
        Due.sentence(27, "from a HOUSE to another one (perhaps the same): both, and all between, "
                + "are CUT OFF");
        RiverTuesdays x = dryInTheMiddle();
        int[][] due = {{1, 1, 0, 0, 0}, {1, 1, 0, 0, 0}, {0, 0, 0, 0, 0}, {0, 0, 0, 1, 1},
            {0, 0, 0, 1, 1}};
        for (int i = 0; i < 5; i++) {
            for (int j = 0; j < 5; j++) {
                Due.is("from " + i + " to " + j, x.boat(0, 0, i, j), due[i][j]);
            }
        }
        x = Make.street("q29 h000");
        Due.is("ahead of its hour", x.boat(8, 2, 0, 0), 0);
        Due.is("behind its hour", x.boat(8, 3, 0, 0), 1);
    }

    /** Houses 0, 1 and 3, 4 are cut off, house 2 between them is dry. */
    private static RiverTuesdays dryInTheMiddle() {
        RiverTuesdays x = Make.street("q10 l900 l900 h900 l000 l000");
        x.shut(4, 1);
        x.tuesday(255);
        x.shut(1, 1);
        x.tuesday(255);
        Due.is("house 2 is dry", x.cut(0, 0), 27);
        return x;
    }

    // ---- 28 trade

    private static void tradeFirst() {
        Due.sentence(28, "The HOUR behind which boats come (the first); how many by asked()");
        RiverTuesdays x = Make.street("q99 h000 h000");
        for (int h = 0; h < 8; h++) {
            Due.tells(x, "from hour " + h + " on", x.trade(1 << h), h, 1);
        }
        Due.tells(x, "never", x.trade(0), 0, 0);
        x = Make.street("q99 h000");
        Due.tells(x, "one house", x.trade(255), 0, 0);
        x = Make.street("q29 h000 h000 h000");
        Due.tells(x, "more later on", x.trade(7), 2, 3);
        x = draining();
        Due.tells(x, "fewer later on", x.trade(0), 0, 1);
    }

    /** Two houses that are cut off behind the first hour, but not behind later ones. */
    private static RiverTuesdays draining() {
        RiverTuesdays x = Make.street("q90 h000 h000");
        x.hour(1);
        x.hour(1);
        x.hour(1);
        Due.is("behind hour 0", x.cut(0, 0), 3);
        Due.is("behind hour 7", x.cut(0, 7), 0);
        return x;
    }

    private static void tradePairs() {
        Due.sentence(28, "from one to another of most pairs of unlike HOUSES");
        RiverTuesdays x = flooded();
        Due.tells(x, "28 pairs of eight", x.trade(0), 0, 28);
        x = dryInTheMiddle();
        Due.tells(x, "no pairs across a dry one", x.trade(0), 0, 2);
        x = Make.street("q99 h000 h000 m000");
        Due.tells(x, "of one kind, too", x.trade(1), 0, 3);
    }

    // ---- 29 marks

    private static void marksNumbers() {
        Due.sentence(29, "BAD (a PLAN, a ROW); STATE");
        for (int r : new int[] {-1, 6, MIN, MAX}) {
            Refused.bad(Make::built, "row " + r, x -> x.marks(0, r));
            Refused.bad(Make::unbuilt, "BAD ahead of STATE, row " + r, x -> x.marks(0, r));
        }
        Refused.state(Make::unbuilt, "no houses, row 0", x -> x.marks(0, 0));
        Refused.state(Make::unbuilt, "no houses, row 5", x -> x.marks(0, 5));
        for (int r = 0; r <= 5; r++) {
            RiverTuesdays x = Make.street("q99 h000");
            Due.is("row " + r, x.marks(1, r), 9);
            Due.row(x, "row " + r, r, 9);
        }
    }

    private static void marksBehindHours() {
        Due.term("for each HOUSE the most WATER that stood ahead of it behind an HOUR");
        RiverTuesdays x = Make.street("q99 h000");
        x.hour(1);
        x.hour(1);
        Due.is("13 stand", Make.house(x, 0, 4), 13);
        Due.is("not ahead of the first hour", x.marks(0, 0), 11);
        x = Make.street("q99 h029");
        Due.is("not what goes into a cellar", x.marks(1, 0), 2);
        x = Make.street("q99 h000");
        Due.is("behind the last hour, too", x.marks(128, 0), 9);
        Due.is("none ever", x.marks(0, 0), 0);
        x = Make.street("q90 h000");
        Due.is("not within the hour", x.marks(1, 0), 4);
    }

    private static void marksToARow() {
        Due.sentence(29, "come to a ROW (anew, one for each HOUSE): the greatest");
        RiverTuesdays x = Make.street("q99 h000 h000 h000");
        Make.fullRow(x, 2, 55);
        Due.is("the first is the greatest", x.marks(1, 2), 4);
        Due.row(x, "onto a row of 60", 2, 4, 3, 3);
        Due.is("to a missing row", x.marks(0, 3), 0);
        Due.row(x, "all dry", 3, 0, 0, 0);
        x = Make.street("q99 h000 l000");
        x.shut(1, 1);
        Due.is("the last is the greatest", x.marks(3, 1), 9);
        Due.row(x, "the last", 1, 9, 9);
        x = flooded();
        Due.is("eight", x.marks(0, 5) > 0 ? 1 : 0, 1);
        Due.is("the eighth", x.at(5, 7), 1);
        Due.finds(x, "no ninth", x.at(5, 8), Refused.BEYOND);
    }

    // ---- 30 stands

    private static void stands() {
        Due.sentence(30, "WATER ahead of all HOUSES at its end; what ran out in it by asked()");
        RiverTuesdays x = Make.street("q99 h009");
        Due.tells(x, "in cellars none stands", x.stands(1), 0, 0);
        x.hour(1);
        x.pump(0);
        Due.is("9 are out", Make.out(x), 9);
        Due.tells(x, "not what was pumped out ahead of it", x.stands(0), 0, 0);
        x = Make.street("q90 h900");
        x.hour(1);
        Due.tells(x, "not what ran out ahead of it", x.stands(0), 0, 0);
        Due.tells(x, "8 times 9", x.stands(255), 0, 72);
        x = Make.street("q90 l000");
        x.shut(0, 1);
        Due.tells(x, "8 times 9, shut", x.stands(255), 72, 0);
        Due.tells(x, "none", x.stands(0), 0, 0);
    }

    // ---- 31 tuesday

    private static void tuesdayNumbers() {
        Due.sentence(31, "BAD; STATE; FULL. (FULL last.)");
        for (int plan : NO_PLANS) {
            Refused.bad(() -> Make.ofHours(53), "BAD ahead of FULL, plan " + plan,
                    x -> x.tuesday(plan));
        }
        for (int hours : new int[] {53, 59, 60}) {
            Refused.full(() -> Make.ofHours(hours), hours + " hours", x -> x.tuesday(255));
            Refused.full(() -> Make.ofHours(hours), hours + " hours, none open", x -> x.tuesday(0));
        }
    }

    private static void tuesdayFull() {
        Due.sentence(31, "FULL: more than 60 HOURS in all");
        RiverTuesdays x = Make.ofHours(52);
        Due.is("52 hours", x.tuesday(1), 0);
        Due.is("60 in all", x.count(1), 60);
        Due.is("no hour more", x.hour(0), FULL);
        Due.is("no Tuesday more", x.tuesday(0), FULL);
        Due.is("undo it", x.undo(52), 8);
        Due.is("another one", x.tuesday(0), 0);
        x = Make.street("q10 h000");
        for (int n = 0; n < 7; n++) {
            Due.is("Tuesday " + n, x.tuesday(0), 0);
        }
        Due.is("56 hours", x.tuesday(0), FULL);
    }

    private static void tuesdayTruly() {
        Due.sentence(31, "A TUESDAY by a PLAN truly (8 HOURS, as hour()): its HARM");
        for (int plan : new int[] {0, 1, 128, 129, 170, 255}) {
            RiverTuesdays x = Make.built();
            RiverTuesdays y = Make.built();
            int harm = y.harm(plan);
            for (int h = 0; h < 8; h++) {
                y.hour(plan >> h & 1);
            }
            Due.is("harm of " + plan, x.tuesday(plan), harm);
            Due.is("asked stays behind " + plan, x.asked(), 77);
            Due.is("as by hours, " + plan, x.digest(), y.digest());
        }
        RiverTuesdays x = Make.street("q99 s009");
        Due.is("a shop's counts twice", x.tuesday(255), 18);
        Due.is("full already", x.tuesday(255), 0);
        Due.is("undone hour by hour", x.undo(1), 15);
        Due.is("behind its first hour", Make.house(x, 0, 5), 9);
    }
}
