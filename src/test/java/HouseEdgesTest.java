/** Promises 12 to 17, sentence by sentence, at the edges that they name. */
public final class HouseEdgesTest {
    private static final int MIN = Integer.MIN_VALUE, MAX = Integer.MAX_VALUE;
    private static final int BAD = RiverTuesdays.BAD;
    private static final int MILL = 1, SHOP = 2, DAM = 3, WHEEL = 4, LOCK = 5;
    private static final String EIGHT = "q10 h901 m812 s723 d634 w545 l456 h367 h299";

    public static void main(String[] args) {
        houseNumbers();
        houseWhat();
        houseOfEight();
        houseInHours();
        markNumbers();
        markKinds();
        markUnlike();
        markBadAheadOfUnlike();
        markOfMill();
        markOfMillBehind();
        markOfShop();
        markOfDam();
        markOfWheel();
        markOfLock();
        markBehindTheLastHour();
        sillNumbers();
        sillHeights();
        sillInHours();
        flowNumbers();
        flowInHours();
        shutNumbers();
        shutUnlike();
        shutTwice();
        pumpNumbers();
        pumpEmptyAndFull();
        pumpAgain();
        Due.end("HouseEdgesTest");
    }

    private static int[] noHouses(int houses) {
        return new int[] {-1, houses, 8, MIN, MAX};
    }

    // ---- 12 house

    private static void houseNumbers() {
        Due.sentence(12, "BAD (a HOUSE)");
        for (int i : noHouses(6)) {
            Refused.bad(Make::built, "house " + i, x -> x.house(i, 0));
        }
        for (int i : noHouses(0)) {
            Refused.bad(Make::unbuilt, "no houses, house " + i, x -> x.house(i, 0));
        }
    }

    private static void houseWhat() {
        Due.sentence(12, "0 its KIND .. 6 what it GROUND");
        for (int what : new int[] {-1, 7, 8, MIN, MAX}) {
            Refused.bad(Make::built, "what " + what, x -> x.house(0, what));
        }
        RiverTuesdays x = Make.built();
        for (int what = 0; what <= 6; what++) {
            Due.is("what " + what, x.house(5, what), 1);
        }
    }

    private static void houseOfEight() {
        Due.sentence(12, "Of a HOUSE (0, 1, .. as they come, down the street)");
        RiverTuesdays x = Make.street(EIGHT);
        int[] kinds = {0, 1, 2, 3, 4, 5, 0, 0};
        for (int i = 0; i < 8; i++) {
            Due.tells(x, "kind " + i, x.house(i, 0), 1, kinds[i]);
            Due.tells(x, "floor " + i, x.house(i, 1), 1, 9 - i);
            Due.tells(x, "sill " + i, x.house(i, 2), 1, i == 7 ? 9 : i);
            Due.tells(x, "cellar " + i, x.house(i, 3), 1, i == 7 ? 9 : i + 1);
        }
        Due.is("house 8", x.house(8, 0), BAD);
    }

    private static void houseInHours() {
        Due.sentence(12, "4 WATER ahead of it, 5 WATER in its cellar, 6 what it GROUND in all "
                + "HOURS");
        RiverTuesdays x = Make.street("q90 w913");
        Due.tells(x, "dry", x.house(0, 4), 1, 0);
        for (int hours = 1; hours <= 10; hours++) {
            x.hour(1);
            Due.tells(x, "nothing stands", x.house(0, 4), 1, 0);
            Due.tells(x, "ground in all", x.house(0, 6), 1, 4 * hours);
        }
        x = Make.street("q99 h012");
        x.hour(1);
        Due.tells(x, "stands ahead", x.house(0, 4), 1, 7);
        Due.tells(x, "stands below", x.house(0, 5), 1, 2);
    }

    // ---- 13 mark

    private static void markNumbers() {
        Due.sentence(13, "BAD (a HOUSE)");
        for (int i : noHouses(6)) {
            Refused.bad(Make::built, "mark of house " + i, x -> x.mark(i, MILL));
        }
        for (int i : noHouses(0)) {
            Refused.bad(Make::unbuilt, "no houses, mark of house " + i, x -> x.mark(i, MILL));
        }
    }

    private static void markKinds() {
        Due.sentence(13, "BAD: also KIND 0");
        for (int i = 0; i < 6; i++) {
            int house = i;
            Refused.bad(Make::built, "kind 0 of house " + i, x -> x.mark(house, 0));
        }
        for (int kind : new int[] {-1, 6, MIN, MAX}) {
            Refused.bad(Make::built, "kind " + kind, x -> x.mark(0, kind));
        }
        RiverTuesdays x = Make.street("q90 m900 s900 d900 w900 l000");
        for (int kind = MILL; kind <= LOCK; kind++) {
            Due.is("kind " + kind, x.mark(kind - 1, kind) >= -2 ? 1 : 0, 1);
        }
    }

    private static void markUnlike() {
        Due.sentence(13, "UNLIKE; a WHEEL is a MILL, a LOCK is a DAM, all are HOUSES");
        int[] kinds = {MILL, SHOP, DAM, WHEEL, LOCK, 0};
        for (int i = 0; i < 6; i++) {
            for (int kind = MILL; kind <= LOCK; kind++) {
                boolean is = kinds[i] == kind || kinds[i] == WHEEL && kind == MILL
                        || kinds[i] == LOCK && kind == DAM;
                int house = i;
                int of = kind;
                if (is) {
                    Due.is("mark " + i + " " + kind + " found nothing",
                            found(i, kind), 0);
                } else {
                    Refused.finds(Make::built, "mark " + i + " " + kind, Refused.UNLIKE,
                            x -> x.mark(house, of));
                }
            }
        }
    }

    private static int found(int i, int kind) {
        RiverTuesdays x = Make.built();
        x.mark(i, kind);
        return x.findings(Refused.UNLIKE);
    }

    private static void markBadAheadOfUnlike() {
        Due.sentence(13, "BAD ahead of FINDING");
        Refused.bad(Make::built, "a shop, kind 0", x -> x.mark(1, 0));
        Refused.bad(Make::built, "a shop, kind 6", x -> x.mark(1, 6));
        Refused.bad(Make::built, "house 6, a lock", x -> x.mark(6, LOCK));
    }

    private static void markIs(String street, int i, int kind, int want) {
        RiverTuesdays x = Make.street(street);
        long before = x.digest();
        Due.is("mark " + i + " " + kind + " of " + street, x.mark(i, kind), want);
        Due.is("nothing has changed", x.digest(), before);
        Due.is("nothing is told", x.asked(), 0);
    }

    private static void markOfMill() {
        Due.sentence(13, "a MILL (WHEEL, too) how much would run on from it in the next HOUR, if "
                + "the sluice is OPEN");
        markIs("q25 m200", 0, MILL, 0);
        markIs("q35 m200", 0, MILL, 0);
        markIs("q45 m200", 0, MILL, 1);
        markIs("q55 m200", 0, MILL, 1);
        markIs("q65 m200", 0, MILL, 2);
        markIs("q10 m900", 0, MILL, 1);
        markIs("q90 m900", 0, MILL, 9);
        markIs("q90 m909", 0, MILL, 9);
        markIs("q35 w200", 0, MILL, 0);
        markIs("q45 w200", 0, MILL, 1);
        markIs("q90 w900", 0, MILL, 9);
    }

    private static void markOfMillBehind() {
        Due.sentence(13, "how much would run on from it (what runs on to it at once, too)");
        markIs("q90 h900 m900", 1, MILL, 5);
        markIs("q90 d900 m900", 1, MILL, 2);
        markIs("q10 h000 m900", 1, MILL, 0);
        RiverTuesdays x = Make.street("q90 l900 m900");
        x.shut(0, 1);
        Due.is("behind a shut lock", x.mark(1, MILL), 0);
        x = Make.street("q39 m000");
        x.hour(1);
        x.hour(1);
        x.hour(1);
        Due.is("with what stands, 12 to 9", x.mark(0, MILL), 2);
    }

    private static void markOfShop() {
        Due.sentence(13, "a SHOP how much room its cellar has");
        markIs("q10 s000", 0, SHOP, 0);
        markIs("q10 s009", 0, SHOP, 9);
        RiverTuesdays x = Make.street("q49 s009");
        int[] room = {5, 1, 0, 0};
        for (int want : room) {
            x.hour(1);
            Due.is("room that is left", x.mark(0, SHOP), want);
        }
        x.pump(0);
        Due.is("room of all", x.mark(0, SHOP), 9);
    }

    private static void markOfDam() {
        Due.sentence(13, "a DAM (LOCK, too) how much higher its LEVEL is than the next one's "
                + "(perhaps below 0)");
        for (String kind : new String[] {"d", "l"}) {
            markIs("q19 " + kind + "000", 0, DAM, -9);
            markIs("q15 " + kind + "400", 0, DAM, -1);
            markIs("q15 " + kind + "500", 0, DAM, 0);
            markIs("q15 " + kind + "600", 0, DAM, 1);
            markIs("q10 " + kind + "900", 0, DAM, 9);
            markIs("q10 " + kind + "000 h900", 0, DAM, -9);
            markIs("q10 " + kind + "900 h000", 0, DAM, 9);
        }
        RiverTuesdays x = Make.street("q99 d000 l000");
        x.hour(1);
        Due.is("7 to 2 of water", x.mark(0, DAM), 5);
        Due.is("2 of water to the sea's 9", x.mark(1, DAM), -7);
        x.shut(1, 1);
        Due.is("a shut lock", x.mark(1, DAM), -7);
    }

    private static void markOfWheel() {
        Due.sentence(13, "a WHEEL what it would GRIND then");
        int[] grinds = {0, 1, 1, 2, 2, 3, 3, 4, 4};
        for (int flow = 1; flow <= 9; flow++) {
            markIs("q" + flow + "0 w900", 0, WHEEL, grinds[flow - 1]);
        }
        RiverTuesdays x = Make.street("q90 w900");
        x.hour(1);
        Due.is("not what it has ground", x.mark(0, WHEEL), 4);
        Due.is("how much would run on", x.mark(0, MILL), 9);
    }

    private static void markOfLock() {
        Due.sentence(13, "a LOCK whether it is SHUT (1, 0)");
        RiverTuesdays x = Make.street("q10 l900 l900");
        Due.is("not at first", x.mark(0, LOCK), 0);
        x.shut(0, 1);
        Due.is("shut", x.mark(0, LOCK), 1);
        Due.is("the other one not", x.mark(1, LOCK), 0);
        x.shut(0, 0);
        Due.is("not any more", x.mark(0, LOCK), 0);
    }

    private static void markBehindTheLastHour() {
        Due.sentence(13, "in the next HOUR (which need not come)");
        RiverTuesdays x = Make.street("q90 w900");
        for (int n = 0; n < 60; n++) {
            x.hour(0);
        }
        Due.is("60 hours", x.hour(1), RiverTuesdays.FULL);
        Due.is("would run on", x.mark(0, MILL), 9);
        Due.is("would grind", x.mark(0, WHEEL), 4);
    }

    // ---- 14 sill

    private static void sillNumbers() {
        Due.sentence(14, "BAD (a HOUSE)");
        for (int i : noHouses(6)) {
            Refused.bad(Make::built, "sill of house " + i, x -> x.sill(i, 5));
        }
        for (int i : noHouses(0)) {
            Refused.bad(Make::unbuilt, "no houses, sill of house " + i, x -> x.sill(i, 5));
        }
    }

    private static void sillHeights() {
        Due.sentence(14, "The SILL of a HOUSE is v (0 .. 20): what it was");
        for (int v : new int[] {-1, 21, MIN, MAX}) {
            Refused.bad(Make::built, "sill " + v, x -> x.sill(0, v));
        }
        RiverTuesdays x = Make.street(EIGHT);
        Due.is("sill 20 of the last house", x.sill(7, 20), 9);
        Due.is("sill 0", x.sill(7, 0), 20);
        Due.is("sill 0 again", x.sill(7, 0), 0);
        Due.is("of the first house", x.sill(0, 19), 0);
        Due.is("it is 19", Make.house(x, 0, 2), 19);
        Due.is("its neighbour's stays", Make.house(x, 1, 2), 1);
    }

    private static void sillInHours() {
        Due.sentence(14, "The SILL of a HOUSE is v (from the next HOUR on)");
        RiverTuesdays x = Make.street("q99 h099");
        x.hour(1);
        x.sill(0, 8);
        Due.is("not at once", Make.house(x, 0, 5), 0);
        Due.is("9 stand", x.hour(0), 8);
        Due.is("one above it", Make.house(x, 0, 5), 1);
        x = Make.street("q90 l099");
        x.shut(0, 1);
        x.sill(0, 20);
        Due.is("18 stand below sill 20", x.hour(1) + x.hour(1), 9 + 18);
        Due.is("7 of 27 are above", x.hour(1), 20);
        Due.is("they are in the cellar", Make.house(x, 0, 5), 7);
    }

    // ---- 15 flow

    private static void flowNumbers() {
        Due.sentence(15, "The FLOW is v (1 .. 9): what it was. BAD; STATE: no HOUSES");
        for (int v : new int[] {-1, 0, 10, MIN, MAX}) {
            Refused.bad(Make::built, "flow " + v, x -> x.flow(v));
            Refused.bad(Make::unbuilt, "BAD ahead of STATE, flow " + v, x -> x.flow(v));
        }
        Refused.state(Make::unbuilt, "no houses, flow 1", x -> x.flow(1));
        Refused.state(Make::unbuilt, "no houses, flow 9", x -> x.flow(9));
        Refused.state(HouseEdgesTest::streetWithoutHouses, "a street of none", x -> x.flow(5));
        RiverTuesdays x = Make.built();
        Due.is("flow 1", x.flow(1), 7);
        Due.is("flow 9", x.flow(9), 1);
        Due.is("flow 9 again", x.flow(9), 9);
    }

    private static RiverTuesdays streetWithoutHouses() {
        return Make.street("q99");
    }

    private static void flowInHours() {
        Due.sentence(15, "The FLOW is v (in HOURS that come)");
        RiverTuesdays x = Make.street("q50 h000");
        x.flow(1);
        x.hour(1);
        Due.is("1 came", x.water(), 1);
        x.flow(9);
        x.hour(1);
        Due.is("9 more", x.water(), 10);
        x.hour(0);
        Due.is("none in an hour that is not open", x.water(), 10);
    }

    // ---- 16 shut

    private static void shutNumbers() {
        Due.sentence(16, "A LOCK is SHUT (1) or not (0): what it was. BAD");
        for (int i : noHouses(6)) {
            Refused.bad(Make::built, "shut " + i, x -> x.shut(i, 0));
        }
        for (int is : new int[] {-1, 2, MIN, MAX}) {
            Refused.bad(Make::built, "is " + is, x -> x.shut(4, is));
            Refused.bad(Make::built, "BAD ahead of UNLIKE, is " + is, x -> x.shut(0, is));
        }
        Refused.bad(Make::unbuilt, "no houses", x -> x.shut(0, 0));
    }

    private static void shutUnlike() {
        Due.sentence(16, "UNLIKE: it is none");
        for (int i : new int[] {0, 1, 2, 3, 5}) {
            Refused.finds(Make::built, "shut " + i, Refused.UNLIKE, x -> x.shut(i, 1));
            Refused.finds(Make::built, "not shut " + i, Refused.UNLIKE, x -> x.shut(i, 0));
        }
    }

    private static void shutTwice() {
        Due.sentence(16, "what it was");
        RiverTuesdays x = Make.street("q90 l900 l900");
        Due.is("not at first", x.shut(1, 0), 0);
        Due.is("still not", x.shut(1, 1), 0);
        Due.is("shut", x.shut(1, 1), 1);
        Due.is("one is shut", x.count(4), 1);
        Due.is("the other not", x.shut(0, 1), 0);
        Due.is("both are shut", x.count(4), 2);
        Due.is("shut still", x.shut(1, 0), 1);
        Due.is("not any more", x.shut(1, 0), 0);
        Due.is("one is left", x.count(4), 1);
    }

    // ---- 17 pump

    private static void pumpNumbers() {
        Due.sentence(17, "BAD (a HOUSE)");
        for (int i : noHouses(6)) {
            Refused.bad(Make::built, "pump " + i, x -> x.pump(i));
        }
        Refused.bad(Make::unbuilt, "no houses", x -> x.pump(0));
    }

    private static void pumpEmptyAndFull() {
        Due.sentence(17, "A cellar is pumped out into the SEA: how much");
        RiverTuesdays x = Make.street("q99 h000 h009 h090");
        x.hour(1);
        x.hour(1);
        x.hour(1);
        Due.is("no cellar", x.pump(0), 0);
        int out = Make.out(x);
        Due.is("a full one", Make.house(x, 1, 5), 9);
        Due.is("pumped out", x.pump(1), 9);
        Due.is("it is empty", Make.house(x, 1, 5), 0);
        Due.is("out in all", Make.out(x), out + 9);
        Due.is("an empty one", x.pump(1), 0);
        Due.is("nothing more is out", Make.out(x), out + 9);
        Due.is("a dry one", x.pump(2), 0);
    }

    private static void pumpAgain() {
        Due.sentence(17, "A cellar is pumped out (and has room again)");
        RiverTuesdays x = Make.street("q99 h004 h009");
        x.hour(1);
        Due.is("4 of it", x.pump(0), 4);
        Due.is("not told by asked()", x.asked(), 0);
        Due.is("the water ahead stays", Make.house(x, 0, 4), 0);
        x.hour(1);
        Due.is("4 again", x.pump(0), 4);
        Due.is("the other cellar stays", Make.house(x, 1, 5) > 0 ? 1 : 0, 1);
    }
}
