/** Promises 44 to 50: what is told. */
public final class ToldTest {
    private static final int BAD = RiverTuesdays.BAD;

    public static void main(String[] args) {
        constants();
        asked();
        askedStays();
        upperAndLower();
        count();
        finding();
        findings();
        digestOfNew();
        digest();
        digestOfNoHouses();
        Due.end("ToldTest");
    }

    private static void constants() {
        Due.is("BAD", RiverTuesdays.BAD, -1);
        Due.is("FULL", RiverTuesdays.FULL, -2);
        Due.is("FINDING", RiverTuesdays.FINDING, -3);
        Due.is("STATE", RiverTuesdays.STATE, -4);
        Due.is("SPENT", RiverTuesdays.SPENT, -6);
        Due.is("NONE", RiverTuesdays.NONE, -9);
    }

    private static void asked() {
        RiverTuesdays x = Make.street("q61 m521 s413");
        Due.is("0 before", x.asked(), 0);
        Make.row(x, 0, 40, 50);
        Due.tells(x, "lay", x.lay(0, 0, 60), 1, 40);
        Due.tells(x, "at", x.at(0, 1), 1, 50);
        Due.tells(x, "mean", x.mean(0), 1, 55);
        Due.tells(x, "house", x.house(0, 1), 1, 5);
        Due.tells(x, "hour", x.hour(1), 2, 4);
        Due.tells(x, "water", x.water(), 6, 4);
        Due.is("asked again", x.asked(), 4);
    }

    private static void askedStays() {
        RiverTuesdays x = Make.street("q61 m521 l413");
        Make.row(x, 0, 40, 50);
        x.mean(0);
        Make.text(x, 1, "q10");
        x.copy(0, 0, 0, 1, 1);
        x.row(1, 2);
        x.tear(1);
        x.fault(0);
        x.mark(0, 1);
        x.sill(0, 1);
        x.flow(5);
        x.shut(1, 1);
        x.pump(0);
        x.tuesday(3);
        x.undo(2);
        x.keep(0);
        x.on(0);
        x.when(3, 0);
        x.boat(3, 0, 0, 1);
        x.marks(3, 1);
        x.raise(3, 1);
        x.work(1, 1, 1);
        x.calendar(0, 7, 0, 0);
        x.upper();
        x.lower();
        x.count(0);
        x.finding();
        x.findings(1);
        x.digest();
        x.street(0);
        Due.is("what other calls leave", x.asked(), 45);
        x.lay(5, 0, 0);
        x.at(0, 9);
        x.mean(6);
        x.house(9, 9);
        x.hour(3);
        x.harm(-1);
        x.wet(-1);
        x.cut(0, 8);
        x.trade(-1);
        x.stands(-1);
        x.most(9);
        x.least(100);
        x.least(99);
        x.led(5);
        x.sure(5);
        x.look(5);
        x.whose(-1);
        x.done(5, 5);
        x.years(0, 0);
        Due.is("what refusals leave", x.asked(), 45);
    }

    private static void partIs(RiverTuesdays x, String what, long upper, long lower) {
        Due.is(what + ", upper", x.upper(), upper);
        Due.is(what + ", lower", x.lower(), lower);
    }

    private static void upperAndLower() {
        partIs(new RiverTuesdays(), "none came", 0, 1);
        RiverTuesdays x = Make.street("q61 m521 s413");
        partIs(x, "still none", 0, 1);
        x.hour(1);
        partIs(x, "2 of 6", 1, 3);
        x.hour(1);
        partIs(x, "3 and 1 of 12", 1, 3);
        x.hour(1);
        partIs(x, "5 and 1 of 18", 1, 3);
        x.hour(0);
        partIs(x, "2 and 1 of 18", 1, 6);
        x.hour(0);
        partIs(x, "1 of 18", 1, 18);
        x.pump(0);
        partIs(x, "0 of 18", 0, 1);
        x = Make.street("q99 h000");
        x.hour(1);
        partIs(x, "all", 1, 1);
        x = Make.street("q19 h000");
        x.hour(1);
        partIs(x, "1 of 1", 1, 1);
        x = Make.street("q90 h900 h009");
        x.hour(1);
        x.hour(0);
        Due.is("in lowest terms", gcd(x.upper(), x.lower()), 1);
    }

    private static long gcd(long a, long b) {
        return b == 0 ? a : gcd(b, a % b);
    }

    private static void count() {
        RiverTuesdays x = Make.street("q61 m521 w413 d222 l315 l101 h019 s111 w000");
        x.shut(3, 1);
        x.shut(4, 1);
        x.hour(1);
        x.tuesday(1);
        x.keep(0);
        x.keep(2);
        x.row(1, 0);
        x.row(3, 4);
        x.row(5, 60);
        x.text(3, 0);
        int[] due = {8, 9, 3, 3, 2, 2, 3, 2};
        for (int what = 0; what <= 7; what++) {
            Due.is("count " + what, x.count(what), due[what]);
        }
        x.shut(3, 0);
        x.tear(1);
        Due.is("shut", x.count(4), 1);
        Due.is("rows", x.count(6), 2);
        Due.is("count 8", x.count(8), BAD);
        Due.is("count -1", x.count(-1), BAD);
    }

    private static void finding() {
        RiverTuesdays x = new RiverTuesdays();
        Due.is("0 before any", x.finding(), 0);
        x.at(9, 0);
        x.hour(0);
        Due.is("0 behind BAD and STATE", x.finding(), 0);
        x.at(0, 0);
        Due.is("NOTHING", x.finding(), 1);
        x.row(0, 0);
        x.at(0, 0);
        Due.is("BEYOND", x.finding(), 2);
        x.mean(0);
        Due.is("NOUGHT", x.finding(), 4);
        x.row(0, -1);
        Due.is("SIZE", x.finding(), 5);
        Make.row(x, 0, 7);
        x.calendar(0, 7, 0, 0);
        Due.is("UNLIKE", x.finding(), 3);
        x.at(0, 0);
        x.at(9, 0);
        Due.is("stays behind others", x.finding(), 3);
    }

    private static void findings() {
        RiverTuesdays x = new RiverTuesdays();
        x.tear(0);
        x.tear(1);
        x.on(0);
        x.row(0, -1);
        x.row(0, 0);
        x.mean(0);
        x.at(0, 0);
        x.at(0, 1);
        Make.row(x, 1, 100);
        x.done(1, 1);
        int[] due = {3, 2, 1, 1, 1};
        for (int f = 1; f <= 5; f++) {
            Due.is("findings " + f, x.findings(f), due[f - 1]);
        }
        Due.is("findings 0", x.findings(0), BAD);
        Due.is("findings 6", x.findings(6), BAD);
        Due.is("findings -1", x.findings(-1), BAD);
    }

    private static long fold(long... all) {
        long h = 17;
        for (long v : all) {
            h = 31 * h + v;
        }
        return h;
    }

    private static void digestOfNew() {
        Due.is("digest of a new one", new RiverTuesdays().digest(),
                fold(0, 0, 0, 0, 0, 0, 0, 0, 0, 0, 0, 0, -1, -1, -1,
                        -1, -1, -1, -1, -1, -1, -1, -1, -1, -1));
    }

    private static void digest() {
        RiverTuesdays x = Make.street("q61m521l413");
        x.hour(1);
        x.hour(0);
        x.keep(1);
        x.hour(1);
        x.shut(1, 1);
        x.sill(1, 12);
        Make.row(x, 2, -4, 5);
        x.row(4, 0);
        x.text(3, 2);
        x.put(3, 1, -7);
        x.mean(2);
        long got = x.digest();
        Due.is("asked() stays", x.asked(), 0);
        Due.is("digest", got, fold(2, 3, 1, 1, 1, 1, 2, 2, 6, 1, 12, 6,
                1, 5, 2, 1, 2, 1, 2, 0,
                5, 4, 12, 3, 1, 2, 0, 1,
                1, 0, 1,
                -1, 2, -1,
                -1, -1, 2, -4, 5, -1, 0, -1,
                11, 'q', '6', '1', 'm', '5', '2', '1', 'l', '4', '1', '3', -1, -1, 2, 32, -7));
    }

    private static void digestOfNoHouses() {
        RiverTuesdays x = Make.street("q99");
        Due.is("flow and sea are 0 without houses", x.digest(),
                fold(0, 0, 0, 0, 0, 0, 0, 1, 0, 0, 0, 0, -1, -1, -1, -1, -1, -1, -1, -1, -1,
                        3, 'q', '9', '9', -1, -1, -1));
    }
}
