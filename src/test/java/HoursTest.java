/** Promises 18 to 22: hours, undone, all water, streets kept. */
public final class HoursTest {
    private static final int BAD = RiverTuesdays.BAD, STATE = RiverTuesdays.STATE;
    private static final int FULL = RiverTuesdays.FULL;
    private static final int NOTHING = 1;

    public static void main(String[] args) {
        hour();
        hourByKinds();
        hourRefused();
        allAddsUp();
        undo();
        undoPumped();
        water();
        keep();
        keepWithItsHours();
        Due.end("HoursTest");
    }

    private static void hour() {
        RiverTuesdays x = Make.street("q61 m521 s413");
        Due.tells(x, "hour 0", x.hour(1), 2, 4);
        Due.tells(x, "hour 1, into a cellar", x.hour(1), 3, 4);
        Due.tells(x, "hour 2, the cellar is full", x.hour(1), 5, 4);
        Due.tells(x, "hour 3, shut", x.hour(0), 2, 3);
        Due.tells(x, "hour 4, no more than there is", x.hour(0), 0, 2);
        Due.tells(x, "hour 5, dry", x.hour(0), 0, 0);
        Due.is("ground", Make.house(x, 0, 6), 5);
        Due.is("hours", x.count(1), 6);
        // A level below the next one's lets nothing run: neither on nor back.
        x = Make.street("q29 h000 h500");
        Due.tells(x, "low", x.hour(1), 2, 0);
        Due.tells(x, "still low", x.hour(1), 4, 0);
        Due.tells(x, "less low", x.hour(1), 6, 0);
        Due.is("one is above: one runs on", Make.house(x, 1, 4), 1);
    }

    private static void hourByKinds() {
        RiverTuesdays x = Make.street("q90 d909 h009");
        x.hour(1);
        Due.is("a dam lets 2 on", Make.house(x, 0, 5), 7);
        Due.is("and no more", Make.house(x, 1, 4) + Make.house(x, 1, 5), 1);
        x = Make.street("q90 l900 h009");
        x.hour(1);
        Due.is("a lock that isn't shut, too", Make.house(x, 0, 4), 7);
        x.shut(0, 1);
        Due.tells(x, "a shut one none", x.hour(0), 7, 0);
        x = Make.street("q10 d900");
        Due.tells(x, "a dam with little", x.hour(1), 0, 1);
        x = Make.street("q90 w900");
        x.hour(1);
        Due.is("a wheel grinds by twos", Make.house(x, 0, 6), 4);
        x = Make.street("q90 m900");
        x.hour(1);
        Due.is("a mill by hours", Make.house(x, 0, 6), 1);
        x = Make.street("q10 m900 w900");
        x.hour(1);
        Due.is("1 that runs on is too little for a mill", Make.house(x, 0, 6), 0);
        Due.is("and for a wheel", Make.house(x, 1, 6), 0);
        for (String kind : new String[] {"h", "s", "d", "l"}) {
            x = Make.street("q90 " + kind + "900");
            x.hour(1);
            Due.is(kind + " grinds nothing", Make.house(x, 0, 6), 0);
        }
    }

    private static void hourRefused() {
        RiverTuesdays x = new RiverTuesdays();
        Due.is("open 2", x.hour(2), BAD);
        Due.is("open -1", x.hour(-1), BAD);
        Due.is("no houses", x.hour(0), STATE);
        x = Make.street("q30 h000");
        for (int n = 0; n < 59; n++) {
            x.hour(n % 2);
        }
        Due.is("the 60th", x.hour(1), 1);
        int told = x.asked();
        Due.is("the 61st", x.hour(1), FULL);
        Due.is("BAD ahead of FULL", x.hour(2), BAD);
        Due.is("asked stays", x.asked(), told);
        Due.is("60 hours", x.count(1), 60);
        Due.is("undo one", x.undo(59), 1);
        Due.is("the 60th again", x.hour(0), 0);
    }

    private static void allAddsUp() {
        RiverTuesdays x = Make.street("q72 m521 s413 d222 w315 l101 h019");
        for (int n = 0; n < 60; n++) {
            x.hour(n * 7 % 3 == 0 ? 0 : 1);
            if (n == 20) {
                x.pump(1);
                x.shut(4, 1);
            }
            if (n % 5 == 0) {
                int stands = 0;
                for (int i = 0; i < 6; i++) {
                    stands += Make.house(x, i, 4) + Make.house(x, i, 5);
                }
                int in = x.water();
                Due.is("in is out and stands, hour " + n, in, x.asked() + stands);
            }
        }
    }

    private static void undo() {
        RiverTuesdays x = Make.street("q61 m521 l413");
        Due.is("none to undo", x.undo(0), 0);
        Due.is("undo 1 of none", x.undo(1), BAD);
        x.hour(1);
        x.hour(1);
        long two = x.digest();
        x.hour(1);
        x.hour(0);
        Due.is("undo -1", x.undo(-1), BAD);
        Due.is("undo 5 of 4", x.undo(5), BAD);
        long four = x.digest();
        Due.is("undo 4 of 4", x.undo(4), 0);
        Due.is("nothing has changed", x.digest(), four);
        Due.is("undo from 2 on", x.undo(2), 2);
        Due.is("as ahead of it", x.digest(), two);
        x.hour(1);
        x.sill(0, 7);
        x.flow(3);
        x.shut(1, 1);
        Due.is("undo all", x.undo(0), 3);
        Due.is("dry", Make.house(x, 0, 4) + Make.house(x, 0, 5) + Make.house(x, 0, 6), 0);
        Due.tells(x, "nothing in or out", x.water(), 0, 0);
        Due.is("sills stay", Make.house(x, 0, 2), 7);
        Due.is("the flow stays", x.flow(3), 3);
        Due.is("locks stay", x.count(4), 1);
        Due.is("no hours", x.count(1), 0);
    }

    private static void undoPumped() {
        RiverTuesdays x = Make.street("q99 h004");
        x.hour(1);
        x.pump(0);
        x.hour(1);
        x.pump(0);
        Due.is("undo none", x.undo(2), 0);
        Due.is("pumped out stays so then", Make.house(x, 0, 5), 0);
        Due.is("undo one", x.undo(1), 1);
        Due.is("what was pumped ahead of it stays so", Make.house(x, 0, 5), 0);
        Due.tells(x, "and is out", x.water(), 9, 4);
        Due.is("undo the other", x.undo(0), 1);
        Due.tells(x, "nothing is out", x.water(), 0, 0);
        x.hour(1);
        x.pump(0);
        x.hour(0);
        x.pump(0);
        x.undo(1);
        Due.tells(x, "pumped out behind an undone hour", x.water(), 9, 4);
    }

    private static void water() {
        RiverTuesdays x = new RiverTuesdays();
        Make.row(x, 0, 5);
        x.at(0, 0);
        Due.tells(x, "no houses", x.water(), 0, 0);
        x = Make.street("q61 m521 s413");
        for (int n = 0; n < 5; n++) {
            x.hour(n < 3 ? 1 : 0);
        }
        Due.tells(x, "in, out", x.water(), 18, 17);
        x.pump(0);
        Due.tells(x, "pumped, too", x.water(), 18, 18);
    }

    private static void keep() {
        RiverTuesdays x = new RiverTuesdays();
        Due.is("keep 3", x.keep(3), BAD);
        Due.is("keep -1", x.keep(-1), BAD);
        Due.is("no houses", x.keep(0), STATE);
        Due.is("on 3", x.on(3), BAD);
        Due.is("on -1", x.on(-1), BAD);
        Due.finds(x, "on none", x.on(2), NOTHING);
        x = Make.street("q61 l521 s413");
        x.hour(1);
        x.hour(0);
        x.shut(0, 1);
        x.sill(1, 9);
        x.flow(2);
        Due.is("keep", x.keep(2), 2);
        int ahead = Make.house(x, 0, 4);
        x.hour(1);
        x.shut(0, 0);
        x.sill(1, 3);
        x.flow(8);
        Make.row(x, 4, 1, 2, 3);
        Due.is("keep another", x.keep(0), 3);
        Due.finds(x, "on none between", x.on(1), NOTHING);
        Due.is("on", x.on(2), 2);
        Due.is("shut as it was", x.count(4), 1);
        Due.is("sill as it was", Make.house(x, 1, 2), 9);
        Due.is("water as it was", Make.house(x, 0, 4), ahead);
        Due.is("flow as it was", x.flow(2), 2);
        Due.is("rows are as they are", Make.at(x, 4, 2), 3);
        Due.is("kept ones stay", x.count(5), 2);
        Due.is("on the other", x.on(0), 3);
        Due.is("flow as it was there", x.flow(8), 8);
    }

    private static void keepWithItsHours() {
        RiverTuesdays x = Make.street("q61 m521 s413");
        x.hour(1);
        x.hour(1);
        x.keep(1);
        long kept = x.digest();
        x.undo(0);
        x.hour(0);
        x.hour(0);
        x.hour(0);
        Due.is("on", x.on(1), 2);
        Due.is("with whether hours were open", x.digest(), kept);
        Due.is("gone on from", x.hour(1), 5);
        Due.is("which is kept as it was", x.on(1), 2);
        Due.is("all of it", x.digest(), kept);
        Due.is("undone", x.undo(1), 1);
        Due.is("as behind its first hour", Make.house(x, 0, 4), 2);
        Due.is("kept anew", x.keep(1), 1);
        Due.is("on the newer one", x.on(1), 1);
    }
}
