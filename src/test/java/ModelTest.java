import java.util.Random;

/**
 * Long runs of calls by lots, on the class and on the model of the document at once: every
 * answer, with what asked() and finding() tell behind it, has to be the same.
 */
public final class ModelTest {
    // An object is used for at most 512 calls; a step of a run has at most some 100.
    private static final int RUNS = 500, CALLS = 512, STEP = 100;
    private static final String LETTERS = "hmsdwl";

    private final Random lots;
    private final RiverTuesdays x = new RiverTuesdays();
    private final Model m = new Model();
    private final int run;
    private final boolean staysOnStreet;
    private int calls;

    private ModelTest(int run) {
        this.run = run;
        this.lots = new Random(7000 + run);
        // Only a street that stays gets to its 60th hour.
        this.staysOnStreet = run % 4 == 0;
    }

    public static void main(String[] args) {
        for (int run = 0; run < RUNS; run++) {
            new ModelTest(run).go();
        }
        Due.end("ModelTest");
    }

    private void same(String call, long got, long want) {
        calls++;
        String at = "run " + run + " call " + calls + " " + call;
        Due.is(at, got, want);
        if (lots.nextInt(4) == 0) {
            calls += 2;
            Due.is(at + ", asked()", x.asked(), m.asked());
            Due.is(at + ", finding()", x.finding(), m.finding());
        }
    }

    private void go() {
        if (lots.nextInt(8) != 0) {
            begin();
        }
        while (calls < CALLS - STEP) {
            int kind = lots.nextInt(100);
            if (kind < 20) {
                rowCall();
            } else if (kind < 25) {
                textCall();
            } else if (kind < 27) {
                if (!staysOnStreet) {
                    begin();
                }
            } else if (kind < 45) {
                houseCall();
            } else if (kind < 65) {
                hourCall();
            } else if (kind < 85) {
                planCall();
            } else if (kind < 88) {
                searchCall();
            } else if (kind < 92) {
                workCall();
            } else {
                toldCall();
            }
        }
        same("digest()", x.digest(), m.digest());
    }

    /** Mostly within a bound, at times beside it or far off. */
    private int about(int bound) {
        switch (lots.nextInt(24)) {
            case 0:
                return -1;
            case 1:
                return bound;
            case 2:
                return lots.nextBoolean() ? Integer.MIN_VALUE : Integer.MAX_VALUE;
            default:
                return bound <= 0 ? 0 : lots.nextInt(bound);
        }
    }

    private int r() {
        return about(6);
    }

    private int aHouse() {
        return about(Math.max(m.count(0), 1));
    }

    private int aPlan() {
        return lots.nextInt(6) == 0 ? 255 : about(256);
    }

    private String blanks() {
        return " ".repeat(lots.nextInt(3) == 0 ? lots.nextInt(3) : 0);
    }

    private int figure(int most) {
        return lots.nextInt(Math.min(most, 9) + 1);
    }

    private String someStreet() {
        StringBuilder b = new StringBuilder(blanks());
        b.append('q').append(1 + figure(8)).append(figure(9)).append(blanks());
        int houses = lots.nextInt(12) == 0 ? lots.nextInt(10) : 1 + lots.nextInt(8);
        int floor = lots.nextInt(10);
        int deep = 1 + lots.nextInt(9);
        int high = 1 + lots.nextInt(9);
        for (int i = 0; i < houses; i++) {
            b.append(LETTERS.charAt(lots.nextInt(6))).append(floor);
            b.append(figure(high)).append(figure(deep)).append(blanks());
            floor = Math.max(0, Math.min(9, floor + lots.nextInt(4) - 2));
        }
        return b.substring(0, Math.min(60, b.length()));
    }

    private void begin() {
        String street = someStreet();
        int t = lots.nextInt(4);
        same("text", x.text(t, street.length()), m.text(t, street.length()));
        for (int i = 0; i < street.length(); i++) {
            if (street.charAt(i) != ' ') {
                put(t, i, street.charAt(i));
            }
        }
        if (lots.nextInt(10) == 0) {
            put(t, lots.nextInt(60), " q0189hmsdwlx".charAt(lots.nextInt(13)));
        }
        same("fault " + street, x.fault(t), m.fault(t));
        same("street " + street, x.street(t), m.street(t));
    }

    private void put(int t, int i, int v) {
        same("put " + t + " " + i + " " + v, x.put(t, i, v), m.put(t, i, v));
    }

    private int value() {
        switch (lots.nextInt(8)) {
            case 0:
                return -9;
            case 1:
                return lots.nextInt();
            case 2:
                return lots.nextInt(1100) - 20;
            default:
                return lots.nextInt(9);
        }
    }

    private void rowCall() {
        int r = r(), s = r(), i = about(7), j = about(7), n = about(5), v = value();
        int size = lots.nextInt(4) == 0 ? about(61) : lots.nextInt(3) == 0 ? m.count(0) : about(9);
        switch (lots.nextInt(8)) {
            case 0:
                same("row " + r + " " + size, x.row(r, size), m.row(r, size));
                break;
            case 1:
            case 2:
            case 3:
                same("lay " + r + " " + i + " " + v, x.lay(r, i, v), m.lay(r, i, v));
                break;
            case 4:
                same("at " + r + " " + i, x.at(r, i), m.at(r, i));
                break;
            case 5:
                if (lots.nextInt(4) == 0) {
                    same("tear " + r, x.tear(r), m.tear(r));
                }
                break;
            case 6:
                same("copy " + r + " " + i + " " + s + " " + j + " " + n,
                        x.copy(r, i, s, j, n), m.copy(r, i, s, j, n));
                break;
            default:
                same("mean " + r, x.mean(r), m.mean(r));
        }
    }

    private void textCall() {
        int t = about(4), i = about(20), n = about(61);
        switch (lots.nextInt(4)) {
            case 0:
                same("text " + t + " " + n, x.text(t, n), m.text(t, n));
                break;
            case 1:
                put(t, i, lots.nextInt(3) == 0 ? lots.nextInt() : 32 + lots.nextInt(90));
                break;
            case 2:
                same("fault " + t, x.fault(t), m.fault(t));
                break;
            default:
                if (lots.nextInt(4) == 0 && !staysOnStreet) {
                    same("street " + t, x.street(t), m.street(t));
                }
        }
    }

    private void houseCall() {
        int i = aHouse(), what = about(7), kind = about(6);
        int v = lots.nextBoolean() ? lots.nextInt(5) : about(21);
        switch (lots.nextInt(7)) {
            case 0:
            case 1:
                same("house " + i + " " + what, x.house(i, what), m.house(i, what));
                break;
            case 2:
                same("mark " + i + " " + kind, x.mark(i, kind), m.mark(i, kind));
                break;
            case 3:
                same("sill " + i + " " + v, x.sill(i, v), m.sill(i, v));
                break;
            case 4:
                int flow = about(10);
                same("flow " + flow, x.flow(flow), m.flow(flow));
                break;
            case 5:
                int is = about(2);
                int lock = lots.nextInt(4) == 0 ? i : someLock(i);
                same("shut " + lock + " " + is, x.shut(lock, is), m.shut(lock, is));
                break;
            default:
                same("pump " + i, x.pump(i), m.pump(i));
        }
    }

    private int someLock(int otherwise) {
        for (int i = 0; i < m.count(0); i++) {
            if (m.ofHouse(i, 0) == 5 && lots.nextBoolean()) {
                return i;
            }
        }
        return otherwise;
    }

    private void hourCall() {
        int open = about(2), k = about(3), plan = aPlan();
        switch (lots.nextInt(10)) {
            case 0:
                int n = lots.nextInt(staysOnStreet ? 40 : 4) == 0
                        ? about(m.count(1)) : m.count(1) - lots.nextInt(3);
                same("undo " + n, x.undo(n), m.undo(n));
                break;
            case 1:
                same("water", x.water(), m.water());
                break;
            case 2:
                same("keep " + k, x.keep(k), m.keep(k));
                break;
            case 3:
                same("on " + k, x.on(k), m.on(k));
                break;
            case 4:
                if (staysOnStreet || lots.nextInt(2) == 0) {
                    same("tuesday " + plan, x.tuesday(plan), m.tuesday(plan));
                }
                break;
            default:
                same("hour " + open, x.hour(open), m.hour(open));
        }
    }

    private void planCall() {
        int plan = aPlan(), i = aHouse(), j = aHouse(), hour = about(8), r = r();
        switch (lots.nextInt(10)) {
            case 0:
                same("harm " + plan, x.harm(plan), m.harm(plan));
                break;
            case 1:
                same("wet " + plan, x.wet(plan), m.wet(plan));
                break;
            case 2:
                same("when " + plan + " " + i, x.when(plan, i), m.when(plan, i));
                break;
            case 3:
                same("cut " + plan + " " + hour, x.cut(plan, hour), m.cut(plan, hour));
                break;
            case 4:
                same("boat " + plan + " " + hour + " " + i + " " + j,
                        x.boat(plan, hour, i, j), m.boat(plan, hour, i, j));
                break;
            case 5:
                same("trade " + plan, x.trade(plan), m.trade(plan));
                break;
            case 6:
                same("marks " + plan + " " + r, x.marks(plan, r), m.marks(plan, r));
                break;
            case 7:
                same("stands " + plan, x.stands(plan), m.stands(plan));
                break;
            case 8:
                same("whose " + plan, x.whose(plan), m.whose(plan));
                break;
            default:
                int seed = lots.nextInt(4) == 0 ? about(2147483647) : 1 + lots.nextInt(99999);
                int n = lots.nextInt(6) == 0 ? about(41) : 1 + lots.nextInt(5);
                same("years " + n + " " + seed, x.years(n, seed), m.years(n, seed));
        }
    }

    private void searchCall() {
        int plan = lots.nextInt(4) == 0 ? aPlan() : 1 << lots.nextInt(8), h = about(9), r = r();
        int v = lots.nextInt(4) == 0 ? about(100) : lots.nextInt(12);
        switch (lots.nextInt(6)) {
            case 0:
                same("most " + h, x.most(h), m.most(h));
                break;
            case 1:
                same("least " + v, x.least(v), m.least(v));
                break;
            case 2:
                same("dry", x.dry(), m.dry());
                break;
            case 3:
                same("raise " + plan + " " + r, x.raise(plan, r), m.raise(plan, r));
                break;
            default:
                marksCalls(lots.nextInt(6));
        }
    }

    private void marksCalls(int r) {
        int plan = aPlan(), houses = m.count(0);
        if (lots.nextInt(6) != 0) {
            same("marks " + plan + " " + r, x.marks(plan, r), m.marks(plan, r));
            for (int i = 0; i < houses; i++) {
                if (lots.nextInt(2) == 0) {
                    same("lay " + r + " " + i, x.lay(r, i, -9), m.lay(r, i, -9));
                }
            }
        }
        if (lots.nextInt(6) == 0) {
            int i = about(houses), v = lots.nextBoolean() ? about(1000) : value();
            same("lay " + r + " " + i + " " + v, x.lay(r, i, v), m.lay(r, i, v));
        }
        same("led " + r, x.led(r), m.led(r));
        same("sure " + r, x.sure(r), m.sure(r));
        same("look " + r, x.look(r), m.look(r));
    }

    private void layJobs(int r, int n, int from, int to) {
        same("row " + r + " " + n, x.row(r, n), m.row(r, n));
        for (int i = 0; i < n; i++) {
            int v = lots.nextInt(60) == 0 ? value() : from + lots.nextInt(to - from);
            same("lay " + r + " " + i + " " + v, x.lay(r, i, v), m.lay(r, i, v));
        }
    }

    private void workCall() {
        int a = r(), b = r(), r = r();
        if (lots.nextInt(3) != 0) {
            int n = lots.nextInt(7);
            int longest = 2 + lots.nextInt(24);
            layJobs(Math.floorMod(a, 6), n, 1, longest);
            layJobs(Math.floorMod(b, 6), lots.nextInt(15) == 0 ? n + 1 : n, 0, 1 + lots.nextInt(100));
        }
        int d = about(10000), p = about(31), s = about(19) - 9;
        switch (lots.nextInt(3)) {
            case 0:
                same("work " + a + " " + b + " " + r, x.work(a, b, r), m.work(a, b, r));
                break;
            case 1:
                same("done " + a + " " + b, x.done(a, b), m.done(a, b));
                break;
            default:
                same("calendar " + d + " " + p + " " + r + " " + s,
                        x.calendar(d, p, r, s), m.calendar(d, p, r, s));
        }
    }

    private void toldCall() {
        int what = about(8), f = about(6);
        switch (lots.nextInt(6)) {
            case 0:
                same("asked", x.asked(), m.asked());
                break;
            case 1:
                same("upper", x.upper(), m.upper());
                same("lower", x.lower(), m.lower());
                break;
            case 2:
                same("count " + what, x.count(what), m.count(what));
                break;
            case 3:
                same("finding", x.finding(), m.finding());
                break;
            case 4:
                same("findings " + f, x.findings(f), m.findings(f));
                break;
            default:
                same("digest", x.digest(), m.digest());
        }
    }
}
