/** Promises 40 to 43: Monday's work, calendars, years by lots. */
public final class WorkTest {
    private static final int BAD = RiverTuesdays.BAD, STATE = RiverTuesdays.STATE;
    private static final int NONE = RiverTuesdays.NONE;
    private static final int NOTHING = 1, UNLIKE = 3, SIZE = 5;

    public static void main(String[] args) {
        work();
        done();
        jobsRefused();
        calendar();
        calendarRefused();
        years();
        Due.end("WorkTest");
    }

    private static void orderIs(RiverTuesdays x, int r, int... order) {
        for (int i = 0; i < order.length; i++) {
            Due.is("job " + i, Make.at(x, r, i), order[i]);
        }
        Due.finds(x, "no more jobs", x.at(r, order.length), 2);
    }

    private static void work() {
        RiverTuesdays x = new RiverTuesdays();
        Make.row(x, 0, 5, 3, 8);
        Make.row(x, 1, 5, 4, 20);
        x.water();
        Due.is("late by 3", x.work(0, 1, 2), 3);
        Due.is("no word by asked()", x.asked(), 0);
        orderIs(x, 2, 1, 0, 2);
        Make.row(x, 1, 99, 99, 99);
        Due.is("none late", x.work(0, 1, 2), 0);
        orderIs(x, 2, 0, 1, 2);
        Make.row(x, 1, 0, 0, 0);
        Due.is("all late", x.work(0, 1, 0), 3 + 8 + 16);
        orderIs(x, 0, 1, 0, 2);
        Make.row(x, 0, 6, 5, 4, 3, 2, 1);
        Make.row(x, 1, 0, 0, 0, 0, 0, 0);
        Due.is("six, onto a row of theirs", x.work(0, 1, 1), 1 + 3 + 6 + 10 + 15 + 21);
        orderIs(x, 1, 5, 4, 3, 2, 1, 0);
        Make.row(x, 0, 2, 2, 24);
        Make.row(x, 1, 4, 4, 28);
        Due.is("in time at the hour", x.work(0, 1, 5), 0);
        orderIs(x, 5, 0, 1, 2);
        x.row(0, 0);
        x.row(1, 0);
        Due.is("no jobs", x.work(0, 1, 5), 0);
        orderIs(x, 5);
    }

    private static void done() {
        RiverTuesdays x = new RiverTuesdays();
        Make.row(x, 0, 5, 3, 8);
        Make.row(x, 1, 5, 4, 20);
        Due.tells(x, "two: the least", x.done(0, 1), 2, 5);
        Make.row(x, 1, 16, 16, 16);
        Due.tells(x, "all, at the hour", x.done(0, 1), 3, 7);
        Make.row(x, 1, 16, 15, 8);
        Due.tells(x, "by another order", x.done(0, 1), 3, 7);
        Make.row(x, 1, 0, 2, 7);
        Due.tells(x, "none", x.done(0, 1), 0, 0);
        Make.row(x, 0, 24, 24, 24, 24, 24, 24);
        Make.row(x, 1, 23, 24, 48, 72, 96, 99);
        Due.tells(x, "four of six", x.done(0, 1), 4, 30);
        x.row(0, 0);
        x.row(1, 0);
        Due.tells(x, "no jobs", x.done(0, 1), 0, 0);
    }

    private static int jobsCall(RiverTuesdays x, boolean isWork, int takes, int due) {
        return isWork ? x.work(takes, due, 5) : x.done(takes, due);
    }

    private static void jobsRefused() {
        for (int way = 0; way < 2; way++) {
            RiverTuesdays x = new RiverTuesdays();
            boolean isWork = way == 0;
            Make.row(x, 0, 1, 2);
            Make.row(x, 1, 5);
            Due.is("takes 6", jobsCall(x, isWork, 6, 0), BAD);
            Due.is("takes -1", jobsCall(x, isWork, -1, 0), BAD);
            Due.is("due 6", jobsCall(x, isWork, 0, 6), BAD);
            Due.is("due -1", jobsCall(x, isWork, 2, -1), BAD);
            Due.finds(x, "no takes", jobsCall(x, isWork, 2, 0), NOTHING);
            Due.finds(x, "no due", jobsCall(x, isWork, 0, 2), NOTHING);
            Due.finds(x, "too few due", jobsCall(x, isWork, 0, 1), SIZE);
            Due.finds(x, "too many due", jobsCall(x, isWork, 1, 0), SIZE);
            Make.row(x, 0, 1, 1, 1, 1, 1, 1, 0);
            Due.finds(x, "seven", jobsCall(x, isWork, 0, 0), SIZE);
            Make.row(x, 0, 24);
            for (int v : new int[] {-1, 100, NONE, Integer.MAX_VALUE}) {
                Make.row(x, 1, v);
                Due.finds(x, "due by " + v, jobsCall(x, isWork, 0, 1), UNLIKE);
            }
            Make.row(x, 1, 99);
            for (int v : new int[] {-1, 0, 25, Integer.MIN_VALUE}) {
                Make.row(x, 0, v);
                Due.finds(x, "takes " + v, jobsCall(x, isWork, 0, 1), UNLIKE);
            }
            Due.is("no row came", x.count(6), 2);
        }
        RiverTuesdays x = new RiverTuesdays();
        Make.row(x, 0, 1);
        Due.is("to row 6", x.work(0, 0, 6), BAD);
        Due.is("to row -1", x.work(0, 1, -1), BAD);
    }

    private static void calendar() {
        RiverTuesdays x = new RiverTuesdays();
        Make.row(x, 0, 1, 4);
        int[] week = {0, 1, 0, 0, 1, 0, 0};
        for (int d = 0; d < 70; d++) {
            Due.is("week by week, day " + d, x.calendar(d, 7, 0, 0), week[d % 7]);
            int shifted = Math.floorMod(d % 7 - d / 7 * 2, 7);
            Due.is("by 2 farther, day " + d, x.calendar(d, 7, 0, 2), week[shifted]);
            int back = Math.floorMod(d % 7 + d / 7 * 9, 7);
            Due.is("by 9 back, day " + d, x.calendar(d, 7, 0, -9), week[back]);
        }
        Make.row(x, 1, 29, 29);
        Due.is("a day twice", x.calendar(9989, 30, 1, 0), 1);
        Due.is("the last day", x.calendar(9999, 30, 1, 0), 0);
        Make.row(x, 1, 0);
        Due.is("a round of one day", x.calendar(9999, 1, 1, 9), 1);
        x.row(1, 0);
        Due.is("no days", x.calendar(0, 1, 1, 0), 0);
    }

    private static void calendarRefused() {
        RiverTuesdays x = new RiverTuesdays();
        Make.row(x, 0, 0);
        Due.is("day -1", x.calendar(-1, 7, 0, 0), BAD);
        Due.is("day 10000", x.calendar(10000, 7, 0, 0), BAD);
        Due.is("0 days", x.calendar(0, 0, 0, 0), BAD);
        Due.is("31 days", x.calendar(0, 31, 0, 0), BAD);
        Due.is("row 6", x.calendar(0, 7, 6, 0), BAD);
        Due.is("row -1", x.calendar(0, 7, -1, 0), BAD);
        Due.is("10 farther", x.calendar(0, 7, 0, 10), BAD);
        Due.is("10 back", x.calendar(0, 7, 1, -10), BAD);
        Due.finds(x, "no row", x.calendar(0, 7, 1, 0), NOTHING);
        for (int v : new int[] {-1, 7, 29, 30, NONE, Integer.MIN_VALUE}) {
            Make.row(x, 1, 0, v);
            Due.finds(x, "own day " + v, x.calendar(0, 7, 1, 0), UNLIKE);
        }
        Make.row(x, 1, 30);
        Due.finds(x, "own day 30 of 30", x.calendar(0, 30, 1, 0), UNLIKE);
        Due.is("no word by asked()", x.asked(), 0);
    }

    private static void years() {
        // The numbers from 1 are 48271 (plan 143) and 182605794 (plan 226).
        RiverTuesdays x = Make.street("q43 m321");
        Due.tells(x, "one", x.years(1, 1), 1, 0);
        Due.tells(x, "two, pumped out between", x.years(2, 1), 2, 0);
        x.tuesday(255);
        Due.tells(x, "from a dry street on", x.years(2, 1), 2, 0);
        x.sill(0, 20);
        Due.tells(x, "with its sills", x.years(40, 1), 0, NONE);
        x = Make.street("q99 h900 s901 h901 l001");
        Due.tells(x, "a house that is wet", x.years(1, 1), 4, 1);
        x = Make.street("q30 l003");
        Due.tells(x, "a lock that isn't shut", x.years(1, 1), 3, 0);
        x.sill(0, 9);
        Due.tells(x, "stands too low", x.years(1, 1), 0, NONE);
        x.shut(0, 1);
        Due.tells(x, "but not if it is shut", x.years(1, 1), 3, 0);
        x.flow(1);
        Due.tells(x, "nor with little flow", x.years(1, 1), 0, NONE);
        Due.is("the greatest seed", x.years(40, 2147483646) >= 0 ? 1 : 0, 1);
        Due.is("0 years", x.years(0, 1), BAD);
        Due.is("41 years", x.years(41, 1), BAD);
        Due.is("seed 0", x.years(1, 0), BAD);
        Due.is("seed -1", x.years(1, -1), BAD);
        Due.is("seed 2147483647", x.years(1, 2147483647), BAD);
        Due.is("no houses", new RiverTuesdays().years(1, 1), STATE);
        Due.is("no houses, seed 0", new RiverTuesdays().years(1, 0), BAD);
    }
}
