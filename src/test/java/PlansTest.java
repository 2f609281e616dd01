/** Promises 23 to 31: Tuesdays by plans. */
public final class PlansTest {
    private static final int BAD = RiverTuesdays.BAD, STATE = RiverTuesdays.STATE;
    private static final int FULL = RiverTuesdays.FULL, NONE = RiverTuesdays.NONE;
    private static final int[] NO_PLANS = {-1, 256, Integer.MIN_VALUE, Integer.MAX_VALUE};

    public static void main(String[] args) {
        harm();
        wet();
        when();
        cut();
        boat();
        trade();
        marks();
        stands();
        tuesday();
        staysAsItIs();
        refused();
        Due.end("PlansTest");
    }

    /** Behind the hours 0, 1, 2 (open) there stand 2, 0; 2, 1; 4, 1; then 2, 0; then none. */
    private static RiverTuesdays millAndShop() {
        return Make.street("q61 m521 s413");
    }

    private static void harm() {
        RiverTuesdays x = millAndShop();
        Due.tells(x, "harm, ground", x.harm(7), 1, 5);
        Due.tells(x, "none", x.harm(0), 0, 0);
        Due.tells(x, "the last hour alone", x.harm(128), 0, 1);
        x.hour(1);
        x.hour(1);
        Due.tells(x, "from as it is", x.harm(1), 0, 3);
        x = Make.street("q99 s304");
        Due.tells(x, "a shop's counts twice", x.harm(1), 8, 0);
        x = Make.street("q99 h304");
        Due.tells(x, "another one's once", x.harm(1), 4, 0);
        x.hour(1);
        Due.tells(x, "what came ahead of it counts not", x.harm(1), 0, 0);
    }

    private static void wet() {
        RiverTuesdays x = millAndShop();
        Due.tells(x, "the mill", x.wet(7), 1, 1);
        Due.tells(x, "none", x.wet(1), 0, 0);
        x.sill(1, 0);
        Due.tells(x, "both", x.wet(7), 3, 2);
        x = Make.street("q99 h090 s004 h090 s001");
        Due.tells(x, "every other one", x.wet(255), 10, 2);
        x.tuesday(255);
        Due.tells(x, "not those that were wet ahead of it", x.wet(255), 0, 0);
    }

    private static void when() {
        RiverTuesdays x = millAndShop();
        Due.is("the second hour", x.when(7, 0), 1);
        Due.is("not", x.when(7, 1), NONE);
        Due.is("later", x.when(96, 0), 6);
        Due.is("not by one hour", x.when(128, 0), NONE);
        x.sill(0, 0);
        Due.is("the first one", x.when(255, 0), 0);
        Due.is("the last one", x.when(128, 0), 7);
        Due.is("house 2", x.when(7, 2), BAD);
        Due.is("house -1", x.when(7, -1), BAD);
        Due.is("no houses", new RiverTuesdays().when(0, 0), BAD);
    }

    private static void cut() {
        RiverTuesdays x = millAndShop();
        int[] due = {1, 1, 1, 1, 0, 0, 0, 0};
        for (int h = 0; h < 8; h++) {
            Due.tells(x, "cut off behind " + h, x.cut(7, h), due[h], due[h]);
        }
        x = Make.street("q99 h000 h000 h000");
        Due.tells(x, "all", x.cut(1, 0), 7, 3);
        Due.tells(x, "none yet", x.cut(2, 0), 0, 0);
        x = Make.street("q29 h000 h000 h000");
        Due.tells(x, "the last", x.cut(3, 1), 4, 1);
        Due.is("hour 8", x.cut(0, 8), BAD);
        Due.is("hour -1", x.cut(0, -1), BAD);
        Due.is("hour 8, no houses", new RiverTuesdays().cut(0, 8), BAD);
    }

    private static void boat() {
        RiverTuesdays x = Make.street("q29 h000 h000 h000");
        Due.is("where it is", x.boat(3, 1, 2, 2), 1);
        Due.is("where none is", x.boat(3, 1, 0, 0), 0);
        Due.is("to where none is", x.boat(3, 1, 2, 1), 0);
        Due.is("from where none is", x.boat(3, 1, 1, 2), 0);
        Due.is("down", x.boat(7, 2, 0, 2), 1);
        Due.is("up", x.boat(7, 2, 2, 0), 1);
        x = dryBetween("q10 l900 h900 l000", 2, 0);
        Due.is("both ends", x.cut(0, 0), 5);
        Due.is("one end", x.boat(0, 0, 0, 0), 1);
        Due.is("the other", x.boat(0, 0, 2, 2), 1);
        Due.is("across a dry one", x.boat(0, 0, 0, 2), 0);
        Due.is("hour 8", x.boat(0, 8, 0, 0), BAD);
        Due.is("hour -1", x.boat(0, -1, 0, 0), BAD);
        Due.is("plan 256", x.boat(256, 0, 0, 0), BAD);
        Due.is("from 3", x.boat(0, 0, 3, 0), BAD);
        Due.is("from -1", x.boat(0, 0, -1, 0), BAD);
        Due.is("to 3", x.boat(0, 0, 0, 3), BAD);
        Due.is("to -1", x.boat(0, 0, 0, -1), BAD);
        Due.is("no houses", new RiverTuesdays().boat(0, 0, 0, 0), BAD);
    }

    private static void trade() {
        RiverTuesdays x = Make.street("q99 h000 h000 h000");
        Due.tells(x, "at once, the first of alike hours", x.trade(1), 0, 3);
        Due.tells(x, "later", x.trade(2), 1, 3);
        Due.tells(x, "never: the first", x.trade(0), 0, 0);
        x = Make.street("q29 h000 h000 h000");
        Due.tells(x, "by and by", x.trade(7), 2, 3);
        Due.tells(x, "one alone is no pair", x.trade(3), 0, 0);
        x = Make.street("q99 h000");
        Due.tells(x, "one house", x.trade(255), 0, 0);
        x = dryBetween("q10 l900 l900 h900 l000 l000", 4, 1);
        Due.is("two and two", x.cut(0, 0), 27);
        Due.tells(x, "no pairs across a dry one", x.trade(0), 0, 2);
        x = Make.street("q99 h000 h000 h000 h000 h000 h000 h000 h000");
        x.tuesday(255);
        Due.tells(x, "eight houses, alike", x.trade(255), 0, 28);
    }

    /** Shuts a lock below, leads the brook down to it, then shuts one above. */
    private static RiverTuesdays dryBetween(String street, int below, int above) {
        RiverTuesdays x = Make.street(street);
        x.shut(below, 1);
        x.tuesday(255);
        x.shut(above, 1);
        x.tuesday(255);
        return x;
    }

    private static void marks() {
        RiverTuesdays x = millAndShop();
        x.water();
        Due.is("greatest", x.marks(7, 3), 4);
        Due.is("no word by asked()", x.asked(), 0);
        Due.is("the mill's", Make.at(x, 3, 0), 4);
        Due.is("the shop's", Make.at(x, 3, 1), 1);
        Make.row(x, 0, 9, 9, 9, 9);
        Due.is("none", x.marks(0, 0), 0);
        Due.is("anew", Make.at(x, 0, 1), 0);
        Due.finds(x, "of two houses", x.at(0, 2), 2);
        x.hour(1);
        x.hour(1);
        x.hour(1);
        Due.is("behind hours, not ahead of them", x.marks(0, 0), 2);
        Due.is("row 6", x.marks(0, 6), BAD);
        Due.is("row -1", x.marks(0, -1), BAD);
        Due.is("row 6, no houses", new RiverTuesdays().marks(0, 6), BAD);
    }

    private static void stands() {
        RiverTuesdays x = millAndShop();
        Due.tells(x, "all out", x.stands(7), 0, 17);
        Due.tells(x, "the last hour", x.stands(128), 2, 4);
        x.hour(1);
        Due.tells(x, "out in it", x.stands(0), 0, 2);
        x = Make.street("q99 h000 h000");
        Due.tells(x, "ahead of all", x.stands(1), 9, 0);
        x = Make.street("q99 h009 h000");
        Due.tells(x, "not what is in a cellar", x.stands(1), 5, 0);
    }

    private static void tuesday() {
        RiverTuesdays x = millAndShop();
        RiverTuesdays hours = millAndShop();
        for (int h = 0; h < 8; h++) {
            hours.hour(h < 3 || h == 7 ? 1 : 0);
        }
        x.house(0, 1);
        int told = x.asked();
        Due.is("harm", x.tuesday(135), 1);
        Due.is("no word by asked()", x.asked(), told);
        Due.is("as hours are", x.digest(), hours.digest());
        Due.is("undone by hours", x.undo(3), 5);
        Due.is("water behind hour 2", Make.house(x, 0, 4), 4);
        x = Make.street("q30 h000");
        for (int n = 0; n < 6; n++) {
            x.tuesday(n);
        }
        for (int n = 0; n < 5; n++) {
            x.hour(0);
        }
        Due.is("53 hours", x.tuesday(1), FULL);
        Due.is("53 hours, plan 256", x.tuesday(256), BAD);
        Due.is("are left", x.count(1), 53);
        x.undo(52);
        Due.is("52 hours", x.tuesday(1), 0);
        Due.is("60 in all", x.count(1), 60);
    }

    private static void staysAsItIs() {
        RiverTuesdays x = Make.street("q72 m521 s413 d222 w315 l101 h019");
        x.tuesday(91);
        x.shut(4, 1);
        x.keep(1);
        long before = x.digest();
        for (int plan = 0; plan < 256; plan += 17) {
            x.harm(plan);
            x.wet(plan);
            x.when(plan, 2);
            x.cut(plan, 4);
            x.boat(plan, 3, 0, 2);
            x.trade(plan);
            x.stands(plan);
            x.whose(plan);
            x.most(plan % 9);
            x.years(3, plan + 1);
        }
        x.least(3);
        x.dry();
        x.mark(3, 4);
        Due.is("all stays as it is", x.digest(), before);
    }

    private static void refused() {
        RiverTuesdays none = new RiverTuesdays();
        RiverTuesdays x = millAndShop();
        x.hour(1);
        int told = x.asked();
        for (int plan : NO_PLANS) {
            for (RiverTuesdays y : new RiverTuesdays[] {none, x}) {
                Due.is("harm " + plan, y.harm(plan), BAD);
                Due.is("wet " + plan, y.wet(plan), BAD);
                Due.is("when " + plan, y.when(plan, 0), BAD);
                Due.is("cut " + plan, y.cut(plan, 0), BAD);
                Due.is("boat " + plan, y.boat(plan, 0, 0, 0), BAD);
                Due.is("trade " + plan, y.trade(plan), BAD);
                Due.is("marks " + plan, y.marks(plan, 0), BAD);
                Due.is("stands " + plan, y.stands(plan), BAD);
                Due.is("tuesday " + plan, y.tuesday(plan), BAD);
            }
        }
        Due.is("asked stays", x.asked(), told);
        Due.is("harm, no houses", none.harm(255), STATE);
        Due.is("wet, no houses", none.wet(0), STATE);
        Due.is("cut, no houses", none.cut(0, 7), STATE);
        Due.is("trade, no houses", none.trade(0), STATE);
        Due.is("marks, no houses", none.marks(0, 5), STATE);
        Due.is("no row by it", none.count(6), 0);
        Due.is("stands, no houses", none.stands(0), STATE);
        Due.is("tuesday, no houses", none.tuesday(0), STATE);
    }
}
