/** Promises 32 to 39: which plan, how it was led, which sills. */
public final class SearchTest {
    private static final int BAD = RiverTuesdays.BAD, STATE = RiverTuesdays.STATE;
    private static final int NONE = RiverTuesdays.NONE;
    private static final int NOTHING = 1, UNLIKE = 3, NOUGHT = 4, SIZE = 5;

    public static void main(String[] args) {
        most();
        least();
        dry();
        led();
        sure();
        look();
        marksRefused();
        raise();
        whose();
        Due.end("SearchTest");
    }

    /**
     * Each open hour grinds 1; two of them side by side put 1 into the cellar, three grind
     * 1 more in the hour behind them.
     */
    private static RiverTuesdays mill() {
        return Make.street("q43 m321");
    }

    private static void most() {
        RiverTuesdays x = mill();
        Due.tells(x, "none", x.most(0), 0, 0);
        Due.tells(x, "one: the least", x.most(1), 1, 1);
        Due.tells(x, "two: of less harm", x.most(2), 5, 2);
        Due.tells(x, "three: of more ground", x.most(3), 7, 4);
        Due.tells(x, "all", x.most(8), 255, 8);
        Due.is("9", x.most(9), BAD);
        Due.is("-1", x.most(-1), BAD);
        Due.is("asked stays", x.asked(), 8);
        Due.is("no houses", new RiverTuesdays().most(8), STATE);
        Due.is("no houses, 9", new RiverTuesdays().most(9), BAD);
        x = Make.street("q30 h000");
        Due.tells(x, "no mills: the least", x.most(4), 15, 0);
    }

    private static void least() {
        RiverTuesdays x = mill();
        Due.tells(x, "0", x.least(0), 0, 0);
        Due.tells(x, "1", x.least(1), 1, 0);
        Due.tells(x, "2", x.least(2), 5, 0);
        Due.tells(x, "4", x.least(4), 85, 0);
        Due.tells(x, "5: only with harm", x.least(5), 15, 1);
        Due.is("99: none does", x.least(99), NONE);
        Due.is("asked stays", x.asked(), 1);
        Due.is("100", x.least(100), BAD);
        Due.is("-1", x.least(-1), BAD);
        Due.is("no houses", new RiverTuesdays().least(0), STATE);
        x = Make.street("q99 s904 w900");
        Due.tells(x, "harm ahead of hours", x.least(1), 1, 8);
    }

    private static void dry() {
        RiverTuesdays x = mill();
        Due.tells(x, "every other hour", x.dry(), 4, 85);
        x.sill(0, 20);
        Due.tells(x, "all", x.dry(), 8, 255);
        x.sill(0, 2);
        x.hour(1);
        Due.tells(x, "not at once", x.dry(), 4, 170);
        x.sill(0, 1);
        Due.tells(x, "not at all", x.dry(), 0, 0);
        x.water();
        int told = x.asked();
        x.sill(0, 0);
        Due.is("not even with none", x.dry(), NONE);
        Due.is("asked stays", x.asked(), told);
        Due.is("no houses", new RiverTuesdays().dry(), STATE);
    }

    /** All that comes stands ahead of the lock: its mark is how many hours were open. */
    private static RiverTuesdays shutLock() {
        RiverTuesdays x = Make.street("q10 h900 l000");
        x.shut(1, 1);
        return x;
    }

    /** The mark is 2 if the first hour was open, else 1. */
    private static RiverTuesdays draining() {
        RiverTuesdays x = Make.street("q10 l000");
        x.shut(0, 1);
        x.tuesday(7);
        x.shut(0, 0);
        return x;
    }

    private static void led() {
        RiverTuesdays x = shutLock();
        int[] due = {1, 8, 28, 56, 70, 56, 28, 8, 1};
        for (int n = 0; n <= 8; n++) {
            Make.row(x, 2, 0, n);
            Due.tells(x, "led " + n, x.led(2), due[n], (1 << n) - 1);
        }
        Make.row(x, 2, NONE, 4);
        Due.tells(x, "one not seen", x.led(2), 70, 15);
        Make.row(x, 2, 0, NONE);
        Due.tells(x, "the other", x.led(2), 256, 0);
        Make.row(x, 2, 1, NONE);
        Due.tells(x, "none fits", x.led(2), 0, NONE);
        Make.row(x, 2, NONE, 9);
        Due.tells(x, "none fits so", x.led(2), 0, NONE);
        x = draining();
        Make.row(x, 0, 2);
        Due.tells(x, "from as it is, 2", x.led(0), 128, 1);
        Make.row(x, 0, 1);
        Due.tells(x, "from as it is, 1", x.led(0), 128, 0);
        Due.is("it stays", x.count(1), 8);
    }

    private static void sure() {
        RiverTuesdays x = shutLock();
        Make.row(x, 1, NONE, 8);
        Due.tells(x, "all open", x.sure(1), 255, 0);
        Make.row(x, 1, 0, 0);
        Due.tells(x, "none open", x.sure(1), 0, 255);
        Make.row(x, 1, 0, 7);
        Due.tells(x, "none surely", x.sure(1), 0, 0);
        x = draining();
        Make.row(x, 1, 2);
        Due.tells(x, "the first surely", x.sure(1), 1, 0);
        Make.row(x, 1, 1);
        Due.tells(x, "the first surely not", x.sure(1), 0, 1);
        Make.row(x, 1, 5);
        int told = x.asked();
        Due.finds(x, "none fits", x.sure(1), NOUGHT);
        Due.is("asked stays", x.asked(), told);
    }

    private static void look() {
        RiverTuesdays x = shutLock();
        Make.row(x, 1, NONE, NONE);
        Due.tells(x, "the lock", x.look(1), 1, 70);
        Make.row(x, 1, NONE, 3);
        Due.tells(x, "what is left to see", x.look(1), 0, 56);
        Make.row(x, 1, 0, NONE);
        Due.tells(x, "the lock again", x.look(1), 1, 70);
        Make.row(x, 1, 0, 3);
        int told = x.asked();
        Due.is("all are seen", x.look(1), NONE);
        Due.is("asked stays", x.asked(), told);
        Make.row(x, 1, 1, NONE);
        Due.finds(x, "none fits", x.look(1), NOUGHT);
        Make.row(x, 1, 1, 3);
        Due.finds(x, "none fits, all are seen", x.look(1), NOUGHT);
        x = Make.street("q10 h900 h900 l000");
        Make.row(x, 1, NONE, NONE, 0);
        Due.tells(x, "the first of alike ones", x.look(1), 0, 256);
    }

    private static void marksRefused() {
        RiverTuesdays none = new RiverTuesdays();
        RiverTuesdays x = shutLock();
        RiverTuesdays[] both = {none, x};
        for (int way = 0; way < 3; way++) {
            for (RiverTuesdays y : both) {
                Due.is("row 6", marksCall(y, way, 6), BAD);
                Due.is("row -1", marksCall(y, way, -1), BAD);
            }
            Due.is("no houses", marksCall(none, way, 0), STATE);
            x.tear(0);
            Due.finds(x, "no row", marksCall(x, way, 0), NOTHING);
            Make.row(x, 0, 1000);
            Due.finds(x, "too few", marksCall(x, way, 0), SIZE);
            Make.row(x, 0, 0, 0, 0);
            Due.finds(x, "too many", marksCall(x, way, 0), SIZE);
            for (int v : new int[] {-1, -8, -10, 1000, Integer.MIN_VALUE, Integer.MAX_VALUE}) {
                Make.row(x, 0, 0, v);
                Due.finds(x, "no mark " + v, marksCall(x, way, 0), UNLIKE);
                Make.row(x, 0, v, 0);
                Due.finds(x, "no mark first " + v, marksCall(x, way, 0), UNLIKE);
            }
        }
        Make.row(x, 0, 999, 999);
        Due.tells(x, "999 is a mark", x.led(0), 0, NONE);
        Due.is("refusals change no row", Make.at(x, 0, 1), 999);
    }

    private static int marksCall(RiverTuesdays x, int way, int r) {
        return way == 0 ? x.led(r) : way == 1 ? x.sure(r) : x.look(r);
    }

    private static void raise() {
        RiverTuesdays x = mill();
        x.water();
        Due.is("none needed", x.raise(5, 4), 0);
        Due.is("by 0", Make.at(x, 4, 0), 0);
        Due.is("by one", x.raise(255, 4), 1);
        Due.is("by 1", Make.at(x, 4, 0), 1);
        Due.is("the sill stays", Make.house(x, 0, 2), 2);
        x = Make.street("q90 h009");
        Due.is("by four", x.raise(1, 0), 4);
        Due.is("by 4", Make.at(x, 0, 0), 4);
        Due.is("by more", x.raise(3, 0), NONE);
        Due.is("the row stays", Make.at(x, 0, 0), 4);
        Due.is("by more, no row", x.raise(3, 1), NONE);
        Due.is("there is none then", x.count(6), 1);
        // 5 stand ahead of the first house, 4 of which are above its sill; cellars without
        // room want no sill.
        x = Make.street("q90 h009 h000 h001");
        Make.row(x, 2, 7, 7, 7, 7);
        Due.is("four and one", x.raise(1, 2), NONE);
        x.sill(0, 2);
        Due.is("two and one", x.raise(1, 2), 3);
        int[] due = {2, 0, 1};
        for (int i = 0; i < 3; i++) {
            Due.is("raised " + i, Make.at(x, 2, i), due[i]);
        }
        Due.finds(x, "one for each house", x.at(2, 3), 2);
        Due.is("row 6", x.raise(0, 6), BAD);
        Due.is("row -1", x.raise(0, -1), BAD);
        Due.is("plan 256", x.raise(256, 0), BAD);
        Due.is("plan -1", x.raise(-1, 0), BAD);
        Due.is("no houses", new RiverTuesdays().raise(0, 0), STATE);
        Due.is("no houses, row 6", new RiverTuesdays().raise(0, 6), BAD);
    }

    private static void whose() {
        RiverTuesdays x = Make.street("q61 m521 s413");
        Due.tells(x, "the mill's", x.whose(3), 0, 0);
        Due.tells(x, "nobody's: the first", x.whose(7), 0, 1);
        Due.is("the sill stays", Make.house(x, 0, 2), 2);
        x = Make.street("q43 h910 m321");
        Due.is("harm", x.harm(3), 1);
        Due.tells(x, "the one behind", x.whose(3), 1, 0);
        x.sill(1, 20);
        Due.tells(x, "as high as none is laid", x.whose(3), 0, 0);
        Due.is("plan 256", x.whose(256), BAD);
        Due.is("plan -1", x.whose(-1), BAD);
        Due.is("no houses", new RiverTuesdays().whose(0), STATE);
        Due.is("no houses, plan 256", new RiverTuesdays().whose(256), BAD);
    }
}
