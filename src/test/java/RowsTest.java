/** Promises 1 to 7: a new object, and rows. */
public final class RowsTest {
    private static final int BAD = RiverTuesdays.BAD;
    private static final int NOTHING = 1, BEYOND = 2, NOUGHT = 4, SIZE = 5;

    public static void main(String[] args) {
        newObject();
        row();
        lay();
        at();
        tear();
        copy();
        copyRefused();
        mean();
        Due.end("RowsTest");
    }

    private static void newObject() {
        RiverTuesdays x = new RiverTuesdays();
        for (int what = 0; what <= 7; what++) {
            Due.is("new count " + what, x.count(what), 0);
        }
        Due.is("new asked", x.asked(), 0);
        Due.is("new finding", x.finding(), 0);
        for (int f = 1; f <= 5; f++) {
            Due.is("new findings " + f, x.findings(f), 0);
        }
        for (int r = 0; r < 6; r++) {
            Due.finds(x, "new at " + r, x.at(r, 0), NOTHING);
        }
        for (int t = 0; t < 4; t++) {
            Due.finds(x, "new fault " + t, x.fault(t), NOTHING);
        }
        Due.is("new house", x.house(0, 0), BAD);
    }

    private static void row() {
        RiverTuesdays x = new RiverTuesdays();
        Due.is("row of none", x.row(0, 0), 0);
        Due.is("row of 60", x.row(5, 60), 60);
        Due.is("last place", Make.at(x, 5, 59), 0);
        Due.is("row of 61", x.row(1, 61), BAD);
        Due.is("row -1", x.row(-1, 1), BAD);
        Due.is("row 6", x.row(6, 1), BAD);
        Due.is("row 6 of fewer than none", x.row(6, -1), BAD);
        Due.finds(x, "row of -1", x.row(1, -1), SIZE);
        Due.finds(x, "row of the least int", x.row(1, Integer.MIN_VALUE), SIZE);
        Due.is("refused rows are not there", x.count(6), 2);
        Make.row(x, 2, 7, 8, 9);
        Due.finds(x, "a row refused", x.row(2, -1), SIZE);
        Due.is("stays", Make.at(x, 2, 1), 8);
        Due.is("a row anew", x.row(2, 5), 5);
        for (int i = 0; i < 5; i++) {
            Due.is("is 0 at " + i, Make.at(x, 2, i), 0);
        }
    }

    private static void lay() {
        RiverTuesdays x = new RiverTuesdays();
        x.row(3, 2);
        Due.tells(x, "lay", x.lay(3, 1, -77), 1, 0);
        Due.tells(x, "lay again", x.lay(3, 1, Integer.MIN_VALUE), 1, -77);
        Due.tells(x, "lay a third time", x.lay(3, 1, 5), 1, Integer.MIN_VALUE);
        Due.is("its neighbour", Make.at(x, 3, 0), 0);
        x.lay(3, 1, 6);
        Due.is("lay in row 6", x.lay(6, 0, 1), BAD);
        Due.is("lay in row -1", x.lay(-1, 0, 1), BAD);
        Due.finds(x, "lay in none", x.lay(0, 0, 1), NOTHING);
        Due.finds(x, "lay at its size", x.lay(3, 2, 1), BEYOND);
        Due.finds(x, "lay at -1", x.lay(3, -1, 1), BEYOND);
        Due.is("asked stays", x.asked(), 5);
        Due.is("what was laid stays", Make.at(x, 3, 1), 6);
    }

    private static void at() {
        RiverTuesdays x = new RiverTuesdays();
        Make.row(x, 0, 11, -12, 13);
        Due.tells(x, "at 0", x.at(0, 0), 1, 11);
        Due.tells(x, "at 1", x.at(0, 1), 1, -12);
        Due.tells(x, "at 2", x.at(0, 2), 1, 13);
        Due.is("at row 6", x.at(6, 0), BAD);
        Due.is("at row -1", x.at(-1, -1), BAD);
        Due.finds(x, "at none", x.at(1, 9), NOTHING);
        Due.finds(x, "at its size", x.at(0, 3), BEYOND);
        Due.finds(x, "at the least int", x.at(0, Integer.MIN_VALUE), BEYOND);
        Due.finds(x, "at the greatest int", x.at(0, Integer.MAX_VALUE), BEYOND);
        Due.is("asked stays", x.asked(), 13);
    }

    private static void tear() {
        RiverTuesdays x = new RiverTuesdays();
        Make.row(x, 4, 1, 2);
        Due.is("tear 6", x.tear(6), BAD);
        Due.is("tear -1", x.tear(-1), BAD);
        Due.finds(x, "tear none", x.tear(3), NOTHING);
        Due.is("tear", x.tear(4), 1);
        Due.finds(x, "it is missing", x.at(4, 0), NOTHING);
        Due.finds(x, "tear it again", x.tear(4), NOTHING);
        x.row(4, 2);
        Due.is("a row of 0 again", Make.at(x, 4, 1), 0);
        x.row(4, 0);
        Due.is("a row of none is there", x.tear(4), 1);
    }

    private static void copy() {
        RiverTuesdays x = new RiverTuesdays();
        Make.row(x, 0, 1, 2, 3, 4, 5);
        Make.row(x, 1, 10, 20, 30);
        Due.is("copy to another", x.copy(0, 2, 1, 1, 2), 1);
        Due.is("ahead of it", Make.at(x, 1, 0), 10);
        Due.is("its first", Make.at(x, 1, 1), 3);
        Due.is("its last", Make.at(x, 1, 2), 4);
        Due.is("copy to itself, farther", x.copy(0, 0, 0, 1, 4), 1);
        int[] farther = {1, 1, 2, 3, 4};
        Due.is("copy to itself, nearer", x.copy(1, 1, 1, 0, 2), 1);
        int[] nearer = {3, 4, 4};
        for (int i = 0; i < 5; i++) {
            Due.is("as if taken ahead, farther, " + i, Make.at(x, 0, i), farther[i]);
        }
        for (int i = 0; i < 3; i++) {
            Due.is("as if taken ahead, nearer, " + i, Make.at(x, 1, i), nearer[i]);
        }
        Due.is("none at the ends", x.copy(0, 5, 1, 3, 0), 1);
        Due.is("all", x.copy(1, 0, 0, 2, 3), 1);
    }

    private static void copyRefused() {
        RiverTuesdays x = new RiverTuesdays();
        Make.row(x, 0, 1, 2, 3);
        Make.row(x, 1, 4, 5);
        Due.is("from row 6", x.copy(6, 0, 0, 0, -1), BAD);
        Due.is("to row -1", x.copy(0, 0, -1, 0, 1), BAD);
        Due.finds(x, "SIZE ahead of NOTHING", x.copy(2, 0, 3, 0, -1), SIZE);
        Due.finds(x, "from none", x.copy(2, 9, 0, 0, 0), NOTHING);
        Due.finds(x, "to none", x.copy(0, 9, 2, 0, 0), NOTHING);
        Due.finds(x, "too many from", x.copy(1, 1, 0, 0, 2), BEYOND);
        Due.finds(x, "too many to", x.copy(0, 0, 1, 1, 2), BEYOND);
        Due.finds(x, "none, from -1", x.copy(0, -1, 1, 0, 0), BEYOND);
        Due.finds(x, "none, to -1", x.copy(0, 0, 1, -1, 0), BEYOND);
        Due.finds(x, "none, from above its size", x.copy(0, 4, 1, 0, 0), BEYOND);
        Due.finds(x, "none, to above its size", x.copy(0, 0, 1, 3, 0), BEYOND);
        Due.finds(x, "a sum that is no int", x.copy(0, 1, 1, 1, Integer.MAX_VALUE), BEYOND);
        Due.finds(x, "a place that is far", x.copy(0, Integer.MAX_VALUE, 1, 0, 1), BEYOND);
        Due.is("nothing has changed", Make.at(x, 1, 1), 5);
    }

    private static void mean() {
        RiverTuesdays x = new RiverTuesdays();
        Make.row(x, 0, 3, 4);
        Due.tells(x, "mean", x.mean(0), 1, 3);
        Make.row(x, 0, -3, -4);
        Due.tells(x, "mean below 0, cut", x.mean(0), 1, -3);
        Make.row(x, 0, 8);
        Due.tells(x, "mean of one", x.mean(0), 1, 8);
        int most = Integer.MAX_VALUE;
        Make.row(x, 1, most, most, most - 3);
        Due.tells(x, "mean of a sum that is no int", x.mean(1), 1, most - 1);
        int least = Integer.MIN_VALUE;
        Make.row(x, 1, least, least);
        Due.tells(x, "mean of the least", x.mean(1), 1, least);
        Due.is("mean of row 6", x.mean(6), BAD);
        Due.finds(x, "mean of none", x.mean(2), NOTHING);
        x.row(2, 0);
        Due.finds(x, "mean of a row of none", x.mean(2), NOUGHT);
        Due.is("asked stays", x.asked(), least);
    }
}
