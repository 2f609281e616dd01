/** Promises 2 to 7, sentence by sentence, at the edges that they name. */
public final class RowEdgesTest {
    private static final int MIN = Integer.MIN_VALUE, MAX = Integer.MAX_VALUE;
    private static final int[] NO_ROWS = {-1, 6, MIN, MAX};

    public static void main(String[] args) {
        rowNumbers();
        rowSizes();
        rowBadAheadOfSize();
        rowOfZeros();
        layNumbers();
        layPlaces();
        layNothingAheadOfBeyond();
        layAnyInt();
        atNumbers();
        atPlaces();
        atNothingAheadOfBeyond();
        tear();
        copyNumbers();
        copySize();
        copyNothing();
        copyBeyondFrom();
        copyBeyondTo();
        copyBeyondOfNone();
        copyBeyondFarOff();
        copyAtTheEnds();
        copyToItself();
        meanCut();
        meanOfMany();
        meanRefused();
        Due.end("RowEdgesTest");
    }

    // ---- 2 row

    private static void rowNumbers() {
        Due.sentence(2, "BAD (ROWS 0 .. 5)");
        for (int r : NO_ROWS) {
            Refused.bad(Make::built, "row " + r, x -> x.row(r, 3));
        }
        for (int r = 0; r <= 5; r++) {
            RiverTuesdays x = new RiverTuesdays();
            Due.is("row " + r, x.row(r, 3), 3);
            Due.row(x, "row " + r, r, 0, 0, 0);
            Due.is("row " + r + " alone", x.count(6), 1);
        }
    }

    private static void rowSizes() {
        Due.sentence(2, "BAD: also n above 60; SIZE: below 0");
        Refused.bad(Make::built, "61", x -> x.row(0, 61));
        Refused.bad(Make::built, "61, a missing row", x -> x.row(3, 61));
        Refused.bad(Make::built, "the greatest int", x -> x.row(0, MAX));
        Refused.finds(Make::built, "-1", Refused.SIZE, x -> x.row(0, -1));
        Refused.finds(Make::built, "-1, a missing row", Refused.SIZE, x -> x.row(3, -1));
        Refused.finds(Make::built, "the least int", Refused.SIZE, x -> x.row(0, MIN));
        RiverTuesdays x = new RiverTuesdays();
        Due.is("0", x.row(2, 0), 0);
        Due.finds(x, "a row of none is there, without places", x.at(2, 0), Refused.BEYOND);
        Due.is("60", x.row(2, 60), 60);
        Due.is("its last place", Make.at(x, 2, 59), 0);
        Due.finds(x, "behind its last place", x.at(2, 60), Refused.BEYOND);
    }

    private static void rowBadAheadOfSize() {
        Due.sentence(2, "BAD ahead of FINDING");
        Refused.bad(Make::built, "row 6 of -1", x -> x.row(6, -1));
        Refused.bad(Make::built, "row -1 of -1", x -> x.row(-1, -1));
        Refused.bad(Make::built, "row 6 of the least int", x -> x.row(6, MIN));
    }

    private static void rowOfZeros() {
        Due.sentence(2, "A ROW is there with n ints 0");
        RiverTuesdays x = new RiverTuesdays();
        Make.row(x, 4, 1, 2, 3, 4);
        x.row(4, 4);
        Due.row(x, "as large as before", 4, 0, 0, 0, 0);
        Make.row(x, 4, 1, 2, 3, 4);
        x.row(4, 2);
        Due.row(x, "smaller", 4, 0, 0);
        x.row(4, 5);
        Due.row(x, "larger again", 4, 0, 0, 0, 0, 0);
        Make.fullRow(x, 4, -1);
        x.row(4, 0);
        x.row(4, 60);
        Due.tells(x, "the last of 60, behind none", x.at(4, 59), 1, 0);
        Due.tells(x, "the first of 60, behind none", x.at(4, 0), 1, 0);
    }

    // ---- 3 lay

    private static void layNumbers() {
        Due.sentence(3, "BAD; NOTHING");
        for (int r : NO_ROWS) {
            Refused.bad(Make::built, "lay in row " + r, x -> x.lay(r, 0, 5));
        }
        Refused.bad(Make::built, "lay in row 6 at -1", x -> x.lay(6, -1, 5));
        for (int r = 0; r <= 5; r++) {
            int row = r;
            Refused.finds(RiverTuesdays::new, "lay in missing row " + r, Refused.NOTHING,
                    x -> x.lay(row, 0, 5));
            RiverTuesdays x = new RiverTuesdays();
            x.row(r, 1);
            Due.tells(x, "lay in row " + r, x.lay(r, 0, 5), 1, 0);
            Due.row(x, "laid", r, 5);
        }
    }

    private static void layPlaces() {
        Due.sentence(3, "BEYOND");
        for (int i : new int[] {-1, 3, MIN, MAX}) {
            Refused.finds(Make::built, "lay at " + i + " of 3", Refused.BEYOND,
                    x -> x.lay(0, i, 5));
        }
        Refused.finds(Make::built, "lay at 0 of none", Refused.BEYOND, x -> x.lay(1, 0, 5));
        Refused.finds(Make::built, "lay at -1 of none", Refused.BEYOND, x -> x.lay(1, -1, 5));
        RiverTuesdays x = new RiverTuesdays();
        x.row(3, 60);
        Due.tells(x, "lay at 0", x.lay(3, 0, 4), 1, 0);
        Due.tells(x, "lay at 59 of 60", x.lay(3, 59, 5), 1, 0);
        Due.finds(x, "lay at 60 of 60", x.lay(3, 60, 6), Refused.BEYOND);
        Due.is("the first", Make.at(x, 3, 0), 4);
        Due.is("the second", Make.at(x, 3, 1), 0);
        Due.is("the last but one", Make.at(x, 3, 58), 0);
        Due.is("the last", Make.at(x, 3, 59), 5);
    }

    private static void layNothingAheadOfBeyond() {
        Due.sentence(3, "BAD; NOTHING; BEYOND");
        Refused.finds(Make::built, "a missing row at -1", Refused.NOTHING, x -> x.lay(2, -1, 5));
        Refused.finds(Make::built, "a missing row at 60", Refused.NOTHING, x -> x.lay(2, 60, 5));
    }

    private static void layAnyInt() {
        Due.sentence(3, "Place i of a ROW is v: what it was, told by asked(): 1");
        RiverTuesdays x = new RiverTuesdays();
        x.row(0, 1);
        int was = 0;
        for (int v : new int[] {MIN, MAX, -9, -1, 0, 1}) {
            Due.tells(x, "lay " + v, x.lay(0, 0, v), 1, was);
            Due.is("is " + v, Make.at(x, 0, 0), v);
            was = v;
        }
    }

    // ---- 4 at

    private static void atNumbers() {
        Due.sentence(4, "BAD; NOTHING");
        for (int r : NO_ROWS) {
            Refused.bad(Make::built, "at of row " + r, x -> x.at(r, 0));
        }
        Refused.bad(Make::built, "at of row 6 at -1", x -> x.at(6, -1));
        for (int r = 0; r <= 5; r++) {
            int row = r;
            Refused.finds(RiverTuesdays::new, "at of missing row " + r, Refused.NOTHING,
                    x -> x.at(row, 0));
            RiverTuesdays x = new RiverTuesdays();
            Make.row(x, r, 30 + r);
            Due.tells(x, "at of row " + r, x.at(r, 0), 1, 30 + r);
        }
    }

    private static void atPlaces() {
        Due.sentence(4, "BEYOND");
        for (int i : new int[] {-1, 3, MIN, MAX}) {
            Refused.finds(Make::built, "at " + i + " of 3", Refused.BEYOND, x -> x.at(0, i));
        }
        Refused.finds(Make::built, "at 0 of none", Refused.BEYOND, x -> x.at(1, 0));
        RiverTuesdays x = Make.built();
        Due.tells(x, "at 0 of 3", x.at(0, 0), 1, 7);
        Due.tells(x, "at 2 of 3", x.at(0, 2), 1, 9);
    }

    private static void atNothingAheadOfBeyond() {
        Due.sentence(4, "BAD; NOTHING; BEYOND");
        Refused.finds(Make::built, "a missing row at -1", Refused.NOTHING, x -> x.at(2, -1));
        Refused.finds(Make::built, "a missing row at 60", Refused.NOTHING, x -> x.at(2, 60));
    }

    // ---- 5 tear

    private static void tear() {
        Due.sentence(5, "A ROW is missing: 1. BAD; NOTHING");
        for (int r : NO_ROWS) {
            Refused.bad(Make::built, "tear " + r, x -> x.tear(r));
        }
        Refused.finds(Make::built, "a missing one", Refused.NOTHING, x -> x.tear(3));
        for (int r = 0; r <= 5; r++) {
            RiverTuesdays x = new RiverTuesdays();
            for (int other = 0; other <= 5; other++) {
                x.row(other, other * 12);
            }
            Due.is("tear " + r, x.tear(r), 1);
            Due.finds(x, "it is missing", x.at(r, 0), Refused.NOTHING);
            Due.is("the others are not", x.count(6), 5);
            Due.finds(x, "torn already", x.tear(r), Refused.NOTHING);
        }
    }

    // ---- 6 copy

    /** Rows 0 (1, 2, 3) and 1 (4, 5); row 2 is of none, the others are missing. */
    private static RiverTuesdays threeAndTwo() {
        RiverTuesdays x = new RiverTuesdays();
        Make.row(x, 0, 1, 2, 3);
        Make.row(x, 1, 4, 5);
        x.row(2, 0);
        return x;
    }

    private static void copyFinds(String what, int finding, int... a) {
        Refused.finds(RowEdgesTest::threeAndTwo, what, finding,
                x -> x.copy(a[0], a[1], a[2], a[3], a[4]));
    }

    private static void copyNumbers() {
        Due.sentence(6, "BAD (ahead of SIZE, NOTHING, BEYOND)");
        for (int r : NO_ROWS) {
            Refused.bad(RowEdgesTest::threeAndTwo, "from " + r, x -> x.copy(r, 0, 1, 0, 1));
            Refused.bad(RowEdgesTest::threeAndTwo, "to " + r, x -> x.copy(0, 0, r, 0, 1));
            Refused.bad(RowEdgesTest::threeAndTwo, "from " + r + ", of -1",
                    x -> x.copy(r, 0, 1, 0, -1));
            Refused.bad(RowEdgesTest::threeAndTwo, "to " + r + ", of -1",
                    x -> x.copy(0, 0, r, 0, -1));
            Refused.bad(RowEdgesTest::threeAndTwo, "to " + r + ", from none",
                    x -> x.copy(3, 0, r, 0, 1));
            Refused.bad(RowEdgesTest::threeAndTwo, "from " + r + ", to -1",
                    x -> x.copy(r, 0, 1, -1, 1));
        }
        RiverTuesdays x = new RiverTuesdays();
        Make.row(x, 0, 6);
        x.row(5, 1);
        Due.is("from 0 to 5", x.copy(0, 0, 5, 0, 1), 1);
        Due.row(x, "row 5", 5, 6);
        x.row(0, 1);
        Due.is("from 5 to 0", x.copy(5, 0, 0, 0, 1), 1);
        Due.row(x, "row 0", 0, 6);
    }

    private static void copySize() {
        Due.sentence(6, "SIZE: n below 0 (ahead of NOTHING, BEYOND)");
        copyFinds("-1", Refused.SIZE, 0, 0, 1, 0, -1);
        copyFinds("the least int", Refused.SIZE, 0, 0, 1, 0, MIN);
        copyFinds("-1 from a missing row", Refused.SIZE, 3, 0, 1, 0, -1);
        copyFinds("-1 to a missing row", Refused.SIZE, 0, 0, 3, 0, -1);
        copyFinds("-1 from -1", Refused.SIZE, 0, -1, 1, 0, -1);
        copyFinds("-1 to beyond", Refused.SIZE, 0, 0, 1, 3, -1);
    }

    private static void copyNothing() {
        Due.sentence(6, "NOTHING: either (ahead of BEYOND)");
        copyFinds("from a missing row", Refused.NOTHING, 3, 0, 1, 0, 1);
        copyFinds("to a missing row", Refused.NOTHING, 0, 0, 3, 0, 1);
        copyFinds("both missing", Refused.NOTHING, 3, 0, 4, 0, 1);
        copyFinds("a missing one to itself", Refused.NOTHING, 3, 0, 3, 0, 0);
        copyFinds("none from a missing row", Refused.NOTHING, 3, 0, 1, 0, 0);
        copyFinds("none to a missing row", Refused.NOTHING, 0, 0, 3, 0, 0);
        copyFinds("from a missing row at -1", Refused.NOTHING, 3, -1, 1, 0, 1);
        copyFinds("from beyond to a missing row", Refused.NOTHING, 0, 9, 3, 0, 1);
        copyFinds("from a missing row to beyond", Refused.NOTHING, 3, 0, 1, 9, 1);
    }

    private static void copyBeyondFrom() {
        Due.sentence(6, "BEYOND: not so many there (from)");
        copyFinds("3 from 0 of 2", Refused.BEYOND, 1, 0, 0, 0, 3);
        copyFinds("2 from 1 of 2", Refused.BEYOND, 1, 1, 0, 0, 2);
        copyFinds("1 from 2 of 2", Refused.BEYOND, 1, 2, 0, 0, 1);
        copyFinds("1 from -1", Refused.BEYOND, 1, -1, 0, 0, 1);
        copyFinds("2 from -1", Refused.BEYOND, 1, -1, 0, 0, 2);
        copyFinds("1 from 0 of none", Refused.BEYOND, 2, 0, 0, 0, 1);
        RiverTuesdays x = threeAndTwo();
        Due.is("2 from 0 of 2", x.copy(1, 0, 0, 0, 2), 1);
        Due.row(x, "two", 0, 4, 5, 3);
        x = threeAndTwo();
        Due.is("1 from 1 of 2", x.copy(1, 1, 0, 0, 1), 1);
        Due.row(x, "one", 0, 5, 2, 3);
    }

    private static void copyBeyondTo() {
        Due.sentence(6, "BEYOND: not so many there (to)");
        copyFinds("3 to 0 of 2", Refused.BEYOND, 0, 0, 1, 0, 3);
        copyFinds("2 to 1 of 2", Refused.BEYOND, 0, 0, 1, 1, 2);
        copyFinds("1 to 2 of 2", Refused.BEYOND, 0, 0, 1, 2, 1);
        copyFinds("1 to -1", Refused.BEYOND, 0, 0, 1, -1, 1);
        copyFinds("2 to -1", Refused.BEYOND, 0, 0, 1, -1, 2);
        copyFinds("1 to 0 of none", Refused.BEYOND, 0, 0, 2, 0, 1);
        RiverTuesdays x = threeAndTwo();
        Due.is("2 to 0 of 2", x.copy(0, 1, 1, 0, 2), 1);
        Due.row(x, "two", 1, 2, 3);
        x = threeAndTwo();
        Due.is("1 to 1 of 2", x.copy(0, 0, 1, 1, 1), 1);
        Due.row(x, "one", 1, 4, 1);
    }

    private static void copyBeyondOfNone() {
        Due.sentence(6, "also with n 0, if i, j is below 0, or above its size");
        copyFinds("none from -1", Refused.BEYOND, 0, -1, 1, 0, 0);
        copyFinds("none from 4 of 3", Refused.BEYOND, 0, 4, 1, 0, 0);
        copyFinds("none to -1", Refused.BEYOND, 0, 0, 1, -1, 0);
        copyFinds("none to 3 of 2", Refused.BEYOND, 0, 0, 1, 3, 0);
        copyFinds("none from 1 of none", Refused.BEYOND, 2, 1, 1, 0, 0);
        copyFinds("none to 1 of none", Refused.BEYOND, 0, 0, 2, 1, 0);
        copyFinds("none from the least int", Refused.BEYOND, 0, MIN, 1, 0, 0);
        copyFinds("none to the greatest int", Refused.BEYOND, 0, 0, 1, MAX, 0);
    }

    private static void copyBeyondFarOff() {
        Due.sentence(6, "BEYOND: not so many there (where a sum is no int)");
        copyFinds("all ints from 0", Refused.BEYOND, 0, 0, 1, 0, MAX);
        copyFinds("all ints from 1", Refused.BEYOND, 0, 1, 1, 0, MAX);
        copyFinds("all ints to 1", Refused.BEYOND, 0, 0, 1, 1, MAX);
        copyFinds("1 from the greatest int", Refused.BEYOND, 0, MAX, 1, 0, 1);
        copyFinds("1 to the greatest int", Refused.BEYOND, 0, 0, 1, MAX, 1);
        copyFinds("1 from the least int", Refused.BEYOND, 0, MIN, 1, 0, 1);
        copyFinds("1 to the least int", Refused.BEYOND, 0, 0, 1, MIN, 1);
        copyFinds("all ints from the greatest", Refused.BEYOND, 0, MAX, 1, MAX, MAX);
    }

    private static void copyAtTheEnds() {
        Due.sentence(6, "n places of a ROW, from one on, come to those of another one");
        RiverTuesdays x = threeAndTwo();
        long before = x.digest();
        Due.is("none from its size to its size", x.copy(0, 3, 1, 2, 0), 1);
        Due.is("none from 0 to 0", x.copy(0, 0, 1, 0, 0), 1);
        Due.is("none of none", x.copy(2, 0, 2, 0, 0), 1);
        Due.is("none from none to its size", x.copy(2, 0, 0, 3, 0), 1);
        Due.is("nothing came", x.digest(), before);
        Due.is("one from its last to its last", x.copy(0, 2, 1, 1, 1), 1);
        Due.row(x, "one came", 1, 4, 3);
        Due.row(x, "it stays where it was", 0, 1, 2, 3);
        Make.fullRow(x, 3, 8);
        x.row(4, 60);
        Due.is("60 of 60", x.copy(3, 0, 4, 0, 60), 1);
        Due.is("the first of 60", Make.at(x, 4, 0), 8);
        Due.is("the last of 60", Make.at(x, 4, 59), 8);
        Due.finds(x, "61 of 60", x.copy(3, 0, 4, 0, 61), Refused.BEYOND);
    }

    private static void copyToItself() {
        Due.sentence(6, "perhaps itself, as if taken ahead");
        RiverTuesdays x = new RiverTuesdays();
        Make.row(x, 0, 1, 2, 3, 4, 5);
        Due.is("farther", x.copy(0, 0, 0, 1, 4), 1);
        Due.row(x, "farther", 0, 1, 1, 2, 3, 4);
        Make.row(x, 0, 1, 2, 3, 4, 5);
        Due.is("nearer", x.copy(0, 1, 0, 0, 4), 1);
        Due.row(x, "nearer", 0, 2, 3, 4, 5, 5);
        Due.is("onto itself", x.copy(0, 0, 0, 0, 5), 1);
        Due.row(x, "onto itself", 0, 2, 3, 4, 5, 5);
        Due.is("none behind its last", x.copy(0, 5, 0, 5, 0), 1);
        Due.finds(x, "one behind its last", x.copy(0, 0, 0, 5, 1), Refused.BEYOND);
    }

    // ---- 7 mean

    private static void meanIs(int want, int... places) {
        RiverTuesdays x = new RiverTuesdays();
        Make.row(x, 2, places);
        x.row(3, 1);
        x.lay(3, 0, 1);
        x.lay(3, 0, 1);
        Due.tells(x, "mean of " + java.util.Arrays.toString(places), x.mean(2), 1, want);
    }

    private static void meanCut() {
        Due.sentence(7, "The mean of a ROW's ints, cut");
        meanIs(0, 0);
        meanIs(5, 5);
        meanIs(0, 1, 0);
        meanIs(0, -1, 0);
        meanIs(0, 1, 1, 0);
        meanIs(0, -1, -1, 0);
        meanIs(1, 1, 2);
        meanIs(-1, -1, -2);
        meanIs(1, 1, 1, 2, 3);
        meanIs(-1, -1, -1, -2, -3);
        meanIs(2, 3, 2, 3);
        meanIs(-2, -3, -2, -3);
    }

    private static void meanOfMany() {
        Due.sentence(7, "The mean of a ROW's ints (where their sum is no int)");
        meanIs(MAX, MAX);
        meanIs(MIN, MIN);
        meanIs(0, MIN, MAX);
        meanIs(MAX, MAX, MAX);
        meanIs(MIN, MIN, MIN);
        meanIs(MAX - 1, MAX, MAX - 1);
        meanIs(MIN + 1, MIN, MIN + 1);
        for (int v : new int[] {MIN, MAX}) {
            RiverTuesdays x = new RiverTuesdays();
            Make.fullRow(x, 5, v);
            Due.tells(x, "60 times " + v, x.mean(5), 1, v);
        }
    }

    private static void meanRefused() {
        Due.sentence(7, "BAD; NOTHING; NOUGHT");
        for (int r : NO_ROWS) {
            Refused.bad(Make::built, "mean of row " + r, x -> x.mean(r));
        }
        Refused.finds(Make::built, "a missing row", Refused.NOTHING, x -> x.mean(2));
        Refused.finds(Make::built, "a row of none", Refused.NOUGHT, x -> x.mean(1));
    }
}
