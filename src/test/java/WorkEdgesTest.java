/** Promises 40 to 43, sentence by sentence, at the edges that they name. */
public final class WorkEdgesTest {
    private static final int MIN = Integer.MIN_VALUE, MAX = Integer.MAX_VALUE;
    private static final int NONE = RiverTuesdays.NONE;
    private static final int[] NO_ROWS = {-1, 6, MIN, MAX};
    private static final int[] ONE = {1}, NO_JOBS = {};

    public static void main(String[] args) {
        for (int way = 0; way < 2; way++) {
            jobsNumbers(way == 0);
            jobsNothing(way == 0);
            jobsSize(way == 0);
            jobsUnlike(way == 0);
            jobsOfAnyRow(way == 0);
        }
        workNumbers();
        workNoneAndSix();
        workLate();
        workFirstOrder();
        workToARow();
        doneNoneAndSix();
        doneInTime();
        doneLeast();
        calendarNumbers();
        calendarNothing();
        calendarUnlike();
        calendarOfNone();
        calendarRounds();
        calendarWrapsAround();
        calendarFarOff();
        yearsNumbers();
        yearsPlans();
        yearsGoOn();
        yearsOfForty();
        yearsWetMostOften();
        yearsFromDry();
        Due.end("WorkEdgesTest");
    }

    // ---- 40, 41 work, done

    private static int jobsCall(RiverTuesdays x, boolean isWork, int takes, int due) {
        return isWork ? x.work(takes, due, 5) : x.done(takes, due);
    }

    private static void sentence(boolean isWork, String words) {
        Due.sentence(isWork ? 40 : 41, words);
    }

    /** Row 0 has the hours that jobs take, row 1 those by which they are due. */
    private static RiverTuesdays jobs(int[] takes, int[] due) {
        RiverTuesdays x = new RiverTuesdays();
        Make.row(x, 0, takes);
        Make.row(x, 1, due);
        Make.row(x, 5, 70, 71, 72);
        return x;
    }

    private static RiverTuesdays oneJob() {
        return jobs(ONE, ONE);
    }

    private static void jobsFind(boolean isWork, String what, int finding, int[] takes, int[] due) {
        Refused.finds(() -> jobs(takes, due), what, finding, x -> jobsCall(x, isWork, 0, 1));
    }

    private static void jobsNumbers(boolean isWork) {
        sentence(isWork, "BAD (ahead of NOTHING)");
        for (int r : NO_ROWS) {
            Refused.bad(WorkEdgesTest::oneJob, "takes " + r, x -> jobsCall(x, isWork, r, 1));
            Refused.bad(WorkEdgesTest::oneJob, "due " + r, x -> jobsCall(x, isWork, 0, r));
            Refused.bad(WorkEdgesTest::oneJob, "takes " + r + ", due is missing",
                    x -> jobsCall(x, isWork, r, 2));
            Refused.bad(WorkEdgesTest::oneJob, "due " + r + ", takes is missing",
                    x -> jobsCall(x, isWork, 2, r));
        }
    }

    private static void jobsNothing(boolean isWork) {
        sentence(isWork, "NOTHING: either (ahead of SIZE, UNLIKE)");
        Refused.finds(WorkEdgesTest::oneJob, "takes", Refused.NOTHING,
                x -> jobsCall(x, isWork, 2, 1));
        Refused.finds(WorkEdgesTest::oneJob, "due", Refused.NOTHING,
                x -> jobsCall(x, isWork, 0, 2));
        Refused.finds(WorkEdgesTest::oneJob, "both", Refused.NOTHING,
                x -> jobsCall(x, isWork, 2, 3));
        int[] seven = {0, 0, 0, 0, 0, 0, 0};
        Refused.finds(() -> jobs(seven, seven), "takes, seven unlike due", Refused.NOTHING,
                x -> jobsCall(x, isWork, 2, 1));
        Refused.finds(() -> jobs(seven, seven), "due, seven unlike takes", Refused.NOTHING,
                x -> jobsCall(x, isWork, 0, 2));
    }

    private static void jobsSize(boolean isWork) {
        sentence(isWork, "SIZE: more than 6, or not as many (ahead of UNLIKE)");
        int[] six = {1, 1, 1, 1, 1, 1};
        int[] seven = {1, 1, 1, 1, 1, 1, 1};
        jobsFind(isWork, "seven", Refused.SIZE, seven, seven);
        jobsFind(isWork, "sixty", Refused.SIZE, new int[60], new int[60]);
        jobsFind(isWork, "six and seven", Refused.SIZE, six, seven);
        jobsFind(isWork, "seven and six", Refused.SIZE, seven, six);
        jobsFind(isWork, "none and one", Refused.SIZE, NO_JOBS, ONE);
        jobsFind(isWork, "one and none", Refused.SIZE, ONE, NO_JOBS);
        jobsFind(isWork, "seven, unlike", Refused.SIZE, new int[7], seven);
        jobsFind(isWork, "one and two, unlike", Refused.SIZE, new int[] {0}, new int[] {100, -1});
        Due.is("six", jobsCall(jobs(six, six), isWork, 0, 1), isWork ? 1 + 2 + 3 + 4 + 5 : 1);
        Due.is("none", jobsCall(jobs(NO_JOBS, NO_JOBS), isWork, 0, 1), 0);
    }

    private static void jobsUnlike(boolean isWork) {
        sentence(isWork, "takes (1 .. 24), due (0 .. 99); UNLIKE: either");
        for (int v : new int[] {-1, 0, 25, NONE, MIN, MAX}) {
            jobsFind(isWork, "takes " + v, Refused.UNLIKE, new int[] {v}, ONE);
            jobsFind(isWork, "the last takes " + v, Refused.UNLIKE,
                    new int[] {1, 1, 1, 1, 1, v}, new int[] {1, 1, 1, 1, 1, 1});
        }
        for (int v : new int[] {-1, 100, NONE, MIN, MAX}) {
            jobsFind(isWork, "due by " + v, Refused.UNLIKE, ONE, new int[] {v});
            jobsFind(isWork, "the last due by " + v, Refused.UNLIKE,
                    new int[] {1, 1, 1, 1, 1, 1}, new int[] {1, 1, 1, 1, 1, v});
        }
        int[] takes = {1, 24, 1, 24};
        int[] due = {0, 0, 99, 99};
        int[] late = {1, 24, 0, 0};
        for (int n = 0; n < 4; n++) {
            RiverTuesdays x = jobs(new int[] {takes[n]}, new int[] {due[n]});
            Due.is("takes " + takes[n] + ", due by " + due[n], jobsCall(x, isWork, 0, 1),
                    isWork ? late[n] : late[n] == 0 ? 1 : 0);
        }
    }

    private static void jobsOfAnyRow(boolean isWork) {
        sentence(isWork, "a ROW of HOURS that each takes and a ROW of HOURS by which it is due");
        for (int r = 0; r <= 5; r++) {
            RiverTuesdays x = new RiverTuesdays();
            Make.row(x, r, 3, 4);
            Due.is("row " + r + " for both", jobsCall(x, isWork, r, r), isWork ? 3 : 1);
        }
    }

    private static void workNumbers() {
        Due.sentence(40, "comes to a ROW. BAD");
        for (int r : NO_ROWS) {
            Refused.bad(WorkEdgesTest::oneJob, "to row " + r, x -> x.work(0, 1, r));
            Refused.bad(WorkEdgesTest::oneJob, "BAD ahead of NOTHING, to row " + r,
                    x -> x.work(2, 3, r));
        }
    }

    private static void workIs(String what, int[] takes, int[] due, int late, int... order) {
        RiverTuesdays x = jobs(takes, due);
        Due.is(what, x.work(0, 1, 5), late);
        Due.row(x, what, 5, order);
    }

    private static void workNoneAndSix() {
        Due.sentence(40, "6 at most, done one behind the other");
        workIs("none", NO_JOBS, NO_JOBS, 0);
        workIs("one", ONE, ONE, 0, 0);
        int[] longest = {24, 24, 24, 24, 24, 24};
        workIs("six of 24, due at once", longest, new int[6], 24 + 48 + 72 + 96 + 120 + 144,
                0, 1, 2, 3, 4, 5);
        workIs("six of 24, as late as may be", longest, new int[] {99, 99, 99, 99, 99, 99},
                21 + 45, 0, 1, 2, 3, 4, 5);
        workIs("six, the last order", new int[] {6, 5, 4, 3, 2, 1}, new int[6],
                1 + 3 + 6 + 10 + 15 + 21, 5, 4, 3, 2, 1, 0);
    }

    private static void workLate() {
        Due.sentence(40, "HOURS by which it is due; the least by which all of them are late "
                + "together");
        workIs("due as it is done", new int[] {5}, new int[] {5}, 0, 0);
        workIs("due one ahead", new int[] {5}, new int[] {4}, 1, 0);
        workIs("due one behind", new int[] {5}, new int[] {6}, 0, 0);
        workIs("early ones make up for none", new int[] {1, 9}, new int[] {99, 5}, 4, 1, 0);
        workIs("each late by its own", new int[] {3, 3}, new int[] {2, 2}, 1 + 4, 0, 1);
    }

    private static void workFirstOrder() {
        Due.sentence(40, "the first such order (by numbers)");
        workIs("all in time", new int[] {1, 1, 1}, new int[] {9, 9, 9}, 0, 0, 1, 2);
        workIs("one has to be first", new int[] {1, 1, 1}, new int[] {9, 9, 1}, 0, 2, 0, 1);
        workIs("one has to be second", new int[] {1, 1, 1}, new int[] {9, 9, 2}, 0, 0, 2, 1);
        workIs("alike ones", new int[] {2, 2, 2}, new int[] {0, 0, 0}, 12, 0, 1, 2);
    }

    private static void workToARow() {
        Due.sentence(40, "comes to a ROW (anew)");
        for (int r = 0; r <= 5; r++) {
            RiverTuesdays x = jobs(new int[] {3, 2}, new int[] {0, 0});
            x.at(5, 1);
            Due.is("to row " + r, x.work(0, 1, r), 2 + 5);
            Due.is("asked stays", x.asked(), 71);
            Due.row(x, "row " + r, r, 1, 0);
        }
        RiverTuesdays x = jobs(new int[] {3, 2}, new int[] {0, 0});
        Make.fullRow(x, 3, 9);
        x.work(0, 1, 3);
        Due.row(x, "onto a row of 60", 3, 1, 0);
        x = jobs(NO_JOBS, NO_JOBS);
        x.work(0, 1, 5);
        Due.row(x, "no jobs, onto a row of three", 5);
        Due.is("no jobs, to a missing row", x.work(0, 1, 4), 0);
        Due.finds(x, "a row of none", x.at(4, 0), Refused.BEYOND);
    }

    private static void doneIs(String what, int[] takes, int[] due, int most, int which) {
        RiverTuesdays x = jobs(takes, due);
        Due.tells(x, what, x.done(0, 1), most, which);
    }

    private static void doneNoneAndSix() {
        Due.sentence(41, "The most jobs of such ROWS that can be done in time");
        doneIs("no jobs", NO_JOBS, NO_JOBS, 0, 0);
        doneIs("none of one", new int[] {2}, new int[] {1}, 0, 0);
        doneIs("one of one", new int[] {2}, new int[] {2}, 1, 1);
        doneIs("six of six", new int[] {1, 1, 1, 1, 1, 1}, new int[] {6, 5, 4, 3, 2, 1}, 6, 63);
        doneIs("none of six", new int[] {2, 2, 2, 2, 2, 2}, new int[] {1, 1, 1, 1, 1, 1}, 0, 0);
        doneIs("the last of six", new int[] {2, 2, 2, 2, 2, 2}, new int[] {1, 1, 1, 1, 1, 2},
                1, 32);
    }

    private static void doneInTime() {
        Due.sentence(41, "done in time (HOURS by which it is due)");
        doneIs("both, at the hour", new int[] {3, 4}, new int[] {7, 4}, 2, 3);
        doneIs("one of them an hour late", new int[] {3, 4}, new int[] {6, 4}, 1, 1);
        doneIs("the second alone", new int[] {3, 4}, new int[] {2, 4}, 1, 2);
        doneIs("99, at the hour", new int[] {24, 24, 24, 24, 3}, new int[] {99, 99, 99, 99, 99},
                5, 31);
        doneIs("100, an hour late", new int[] {24, 24, 24, 24, 4}, new int[] {99, 99, 99, 99, 99},
                4, 15);
    }

    private static void doneLeast() {
        Due.sentence(41, "which (bits; the least) by asked()");
        doneIs("any one of three", new int[] {5, 5, 5}, new int[] {5, 5, 5}, 1, 1);
        doneIs("any two of three", new int[] {5, 5, 5}, new int[] {10, 10, 10}, 2, 3);
        doneIs("not the shortest", new int[] {5, 1, 5}, new int[] {5, 1, 5}, 1, 1);
        doneIs("two, not the longest", new int[] {9, 1, 1}, new int[] {9, 2, 2}, 2, 6);
    }

    // ---- 42 calendar

    /** Row 0 has one day of its own, row 1 none; others are missing. */
    private static RiverTuesdays oneDay(int day) {
        RiverTuesdays x = new RiverTuesdays();
        Make.row(x, 0, day);
        x.row(1, 0);
        return x;
    }

    private static RiverTuesdays dayNought() {
        return oneDay(0);
    }

    private static void calendarNumbers() {
        Due.sentence(42, "day d (0 .. 9999), p (1 .. 30) days, s (-9 .. 9) days; BAD (ahead of "
                + "NOTHING)");
        for (int d : new int[] {-1, 10000, MIN, MAX}) {
            Refused.bad(WorkEdgesTest::dayNought, "d " + d, x -> x.calendar(d, 7, 0, 0));
            Refused.bad(WorkEdgesTest::dayNought, "d " + d + ", no row",
                    x -> x.calendar(d, 7, 2, 0));
        }
        for (int p : new int[] {-1, 0, 31, MIN, MAX}) {
            Refused.bad(WorkEdgesTest::dayNought, "p " + p, x -> x.calendar(0, p, 0, 0));
            Refused.bad(WorkEdgesTest::dayNought, "p " + p + ", no row",
                    x -> x.calendar(0, p, 2, 0));
        }
        for (int s : new int[] {-10, 10, MIN, MAX}) {
            Refused.bad(WorkEdgesTest::dayNought, "s " + s, x -> x.calendar(0, 7, 0, s));
            Refused.bad(WorkEdgesTest::dayNought, "s " + s + ", no row",
                    x -> x.calendar(0, 7, 2, s));
        }
        for (int r : NO_ROWS) {
            Refused.bad(WorkEdgesTest::dayNought, "row " + r, x -> x.calendar(0, 7, r, 0));
        }
        RiverTuesdays x = dayNought();
        Due.is("d 0, p 1, s -9", x.calendar(0, 1, 0, -9), 1);
        Due.is("d 9999, p 1, s 9", x.calendar(9999, 1, 0, 9), 1);
        Due.is("d 0, p 30, s 9", x.calendar(0, 30, 0, 9), 1);
        Due.is("d 9990, p 30", x.calendar(9990, 30, 0, 0), 1);
        Due.is("d 9999, p 30", x.calendar(9999, 30, 0, 0), 0);
        Due.is("nothing is told", x.asked(), 0);
    }

    private static void calendarNothing() {
        Due.sentence(42, "NOTHING");
        for (int r = 2; r <= 5; r++) {
            int row = r;
            Refused.finds(WorkEdgesTest::dayNought, "missing row " + r, Refused.NOTHING,
                    x -> x.calendar(0, 7, row, 0));
        }
        for (int r = 0; r <= 5; r++) {
            RiverTuesdays x = new RiverTuesdays();
            Make.row(x, r, 3);
            Due.is("row " + r, x.calendar(3, 7, r, 0), 1);
        }
    }

    private static void calendarUnlike() {
        Due.sentence(42, "UNLIKE: a number that is none, or not below p");
        for (int day : new int[] {-1, 7, 29, 30, NONE, MIN, MAX}) {
            Refused.finds(() -> oneDay(day), "day " + day + " of 7", Refused.UNLIKE,
                    x -> x.calendar(0, 7, 0, 0));
        }
        Refused.finds(() -> oneDay(1), "day 1 of 1", Refused.UNLIKE, x -> x.calendar(0, 1, 0, 0));
        Refused.finds(() -> oneDay(30), "day 30 of 30", Refused.UNLIKE,
                x -> x.calendar(0, 30, 0, 0));
        Refused.finds(WorkEdgesTest::lastDayUnlike, "the last of 60 is 7", Refused.UNLIKE,
                x -> x.calendar(0, 7, 3, 0));
        Due.is("day 0 of 1", oneDay(0).calendar(5, 1, 0, 0), 1);
        Due.is("day 6 of 7", oneDay(6).calendar(6, 7, 0, 0), 1);
        Due.is("day 29 of 30", oneDay(29).calendar(29, 30, 0, 0), 1);
        Due.is("day 29 of 30, a day ahead", oneDay(29).calendar(28, 30, 0, 0), 0);
    }

    private static RiverTuesdays lastDayUnlike() {
        RiverTuesdays x = new RiverTuesdays();
        x.row(3, 60);
        x.lay(3, 59, 7);
        return x;
    }

    private static void calendarOfNone() {
        Due.sentence(42, "the days of a ROW are its own");
        RiverTuesdays x = dayNought();
        Due.is("a row of none", x.calendar(0, 1, 1, 0), 0);
        Due.is("a row of none, later", x.calendar(9999, 30, 1, 9), 0);
        Make.row(x, 2, 2, 2, 5);
        int[] led = {0, 0, 1, 0, 0, 1, 0};
        for (int d = 0; d < 7; d++) {
            Due.is("day " + d + " of a row with a day twice", x.calendar(d, 7, 2, 3), led[d]);
        }
        Make.fullRow(x, 3, 4);
        Due.is("a row of 60", x.calendar(4, 5, 3, 0), 1);
    }

    /** The days from 0 on in which the brook is led, by a calendar with one day of its own. */
    private static void daysAre(int day, int p, int s, int... led) {
        RiverTuesdays x = oneDay(day);
        int next = 0;
        for (int d = 0; d <= led[led.length - 1]; d++) {
            boolean isLed = d == led[next];
            next += isLed ? 1 : 0;
            Due.is("day " + d + " of " + p + " by " + s, x.calendar(d, p, 0, s), isLed ? 1 : 0);
        }
    }

    private static void calendarRounds() {
        Due.sentence(42, "each later round (0, 1, ..) by s days farther");
        daysAre(2, 7, 0, 2, 9, 16, 23, 30);
        daysAre(2, 7, 1, 2, 10, 18, 26, 34);
        daysAre(2, 7, -1, 2, 8, 14);
        daysAre(0, 10, 9, 0, 19);
        daysAre(9, 10, -9, 9, 10);
    }

    private static void calendarWrapsAround() {
        Due.sentence(42, "by s days farther (modulo p)");
        daysAre(6, 7, 1, 6, 7, 15, 23, 31, 39, 47, 55, 56);
        daysAre(0, 7, -1, 0, 13, 19, 25, 31, 37, 43, 49);
        daysAre(1, 2, 9, 1, 2, 5, 6, 9);
        daysAre(0, 2, -9, 0, 3, 4, 7, 8);
        daysAre(0, 1, 9, 0, 1, 2, 3);
        daysAre(0, 3, -9, 0, 3, 6, 9);
    }

    private static void calendarFarOff() {
        Due.sentence(42, "by s days farther (the last days)");
        // Day 9999 is day 9 of round 333, which is 2997 days farther: 27 of 30.
        for (int day = 0; day < 30; day++) {
            Due.is("day 9999 by " + day + ", farther", oneDay(day).calendar(9999, 30, 0, 9),
                    day == 12 ? 1 : 0);
            Due.is("day 9999 by " + day + ", nearer", oneDay(day).calendar(9999, 30, 0, -9),
                    day == 6 ? 1 : 0);
        }
        Due.is("day 9999 of 2", oneDay(0).calendar(9999, 2, 0, 9), 1);
        Due.is("day 9999 of 2, back", oneDay(1).calendar(9999, 2, 0, -9), 0);
    }

    // ---- 43 years

    /** All that comes stands ahead of the shut lock, and above its sill goes into its cellar. */
    private static RiverTuesdays shutLock(String sillAndCellar) {
        RiverTuesdays x = Make.street("q10 l0" + sillAndCellar);
        x.shut(0, 1);
        return x;
    }

    private static void yearsNumbers() {
        Due.sentence(43, "n (1 .. 40), a seed (1 .. 2147483646). BAD; STATE");
        for (int n : new int[] {-1, 0, 41, MIN, MAX}) {
            Refused.bad(Make::built, "years " + n, x -> x.years(n, 1));
            Refused.bad(Make::unbuilt, "BAD ahead of STATE, years " + n, x -> x.years(n, 1));
        }
        for (int seed : new int[] {-1, 0, 2147483647, MIN}) {
            Refused.bad(Make::built, "seed " + seed, x -> x.years(1, seed));
            Refused.bad(Make::unbuilt, "BAD ahead of STATE, seed " + seed, x -> x.years(1, seed));
        }
        Refused.state(Make::unbuilt, "no houses, the least", x -> x.years(1, 1));
        Refused.state(Make::unbuilt, "no houses, the greatest", x -> x.years(40, 2147483646));
        Refused.state(() -> Make.street("q99"), "a street of none", x -> x.years(1, 1));
    }

    private static void yearsPlans() {
        Due.sentence(43, "48271 times it modulo 2147483647; it modulo 256 is the PLAN");
        // From 1 it is 48271 (plan 143), from 2147483646 it is 2147435376 (plan 112).
        RiverTuesdays x = shutLock("09");
        Due.tells(x, "seed 1", x.years(1, 1), Integer.bitCount(143), 0);
        Due.tells(x, "seed 2147483646", x.years(1, 2147483646), Integer.bitCount(112), 0);
        for (int seed : new int[] {2, 44488, 44489, 65536, 1000000000, 2147483645}) {
            int plan = (int) (seed * 48271L % 2147483647L % 256);
            Due.is("seed " + seed, x.years(1, seed), Integer.bitCount(plan));
        }
    }

    private static void yearsGoOn() {
        Due.sentence(43, "n TUESDAYS from a dry STREET on, a PLAN each, cellars pumped out ahead "
                + "of each");
        // Plans 143 (5 hours) and 226 (4 hours).
        RiverTuesdays x = shutLock("09");
        Due.tells(x, "all goes below", x.years(2, 1), 5 + 4, 0);
        x = shutLock("29");
        Due.tells(x, "2 stand, one year", x.years(1, 1), 3, 0);
        Due.tells(x, "2 stand still, two years", x.years(2, 1), 3 + 4, 0);
        x = shutLock("03");
        Due.tells(x, "full, one year", x.years(1, 1), 3, 0);
        Due.tells(x, "pumped out, and full again", x.years(2, 1), 3 + 3, 0);
    }

    private static void yearsOfForty() {
        Due.sentence(43, "n (1 .. 40): all HARM");
        for (int seed : new int[] {1, 99, 2147483646}) {
            RiverTuesdays x = shutLock("09");
            long lot = seed;
            int harm = 0;
            for (int n = 1; n <= 40; n++) {
                lot = lot * 48271 % 2147483647;
                harm += Integer.bitCount((int) (lot % 256));
                Due.is(n + " years from " + seed, x.years(n, seed), harm);
            }
        }
        RiverTuesdays x = Make.street("q99 s009");
        Due.tells(x, "a shop's counts twice", x.years(1, 1), 18, 0);
    }

    private static void yearsWetMostOften() {
        Due.sentence(43, "the HOUSE WET most often (the first; NONE: none) by asked()");
        RiverTuesdays x = Make.street("q99 h000");
        Due.tells(x, "no cellar", x.years(40, 1), 0, NONE);
        x = Make.street("q99 h001 h001");
        Due.tells(x, "both each year", x.years(1, 1), 2, 0);
        x = Make.street("q99 h000 h001");
        Due.tells(x, "the second", x.years(1, 1), 1, 1);
        x = Make.street("q70 h441 h202");
        Due.tells(x, "both in each of two years", x.years(2, 1), 2 * (1 + 2), 0);
        Due.tells(x, "the second alone in the third", x.years(3, 1), 2 * (1 + 2) + 2, 1);
        x = Make.street("q10 h900h900h900h900h900h900h900l009");
        x.shut(7, 1);
        Due.tells(x, "the eighth", x.years(1, 1), 5, 7);
    }

    private static void yearsFromDry() {
        Due.sentence(43, "from a dry STREET on (its SILLS, FLOW, LOCKS)");
        RiverTuesdays x = shutLock("29");
        x.tuesday(255);
        x.hour(1);
        long before = x.digest();
        Due.tells(x, "as if dry", x.years(2, 1), 3 + 4, 0);
        Due.is("it stays as it is", x.digest(), before);
        x.sill(0, 3);
        Due.tells(x, "its sill", x.years(1, 1), 2, 0);
        x.flow(2);
        Due.tells(x, "its flow", x.years(1, 1), 7, 0);
        x.shut(0, 0);
        Due.tells(x, "its lock", x.years(1, 1), 0, NONE);
    }
}
