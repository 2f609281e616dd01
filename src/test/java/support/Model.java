import java.util.ArrayList;
import java.util.Arrays;
import java.util.Comparator;
import java.util.HashMap;
import java.util.List;
import java.util.Map;
import java.util.TreeMap;
import java.util.TreeSet;
import java.util.function.ToIntFunction;
import java.util.regex.Matcher;
import java.util.regex.Pattern;
import java.util.stream.Collectors;
import java.util.stream.IntStream;

/**
 * The document told a second time, by other means than the class: copies of everything for
 * each hour, every plan and every order tried, a pattern for streets. Slow, and plain.
 */
final class Model {
    static final int BAD = -1, FULL = -2, FINDING = -3, STATE = -4, NONE = -9;
    private static final Pattern STREET =
            Pattern.compile(" *q[1-9][0-9]( *[hmsdwl][0-9]{3}){0,8} *");
    private static final String LETTERS = "hmsdwl";

    /** A house with its water. */
    static final class House {
        char letter;
        int floor, sill, cellar, water, inCellar, ground;
        boolean shut;
        int gotNow, ranNow;

        House again() {
            House h = new House();
            h.letter = letter;
            h.floor = floor;
            h.sill = sill;
            h.cellar = cellar;
            h.water = water;
            h.inCellar = inCellar;
            h.ground = ground;
            h.shut = shut;
            h.gotNow = gotNow;
            h.ranNow = ranNow;
            return h;
        }

        int level() {
            return floor + water;
        }

        boolean is(int kind) {
            return switch (kind) {
                case 0 -> true;
                case 1 -> letter == 'm' || letter == 'w';
                case 2 -> letter == 's';
                case 3 -> letter == 'd' || letter == 'l';
                case 4 -> letter == 'w';
                default -> letter == 'l';
            };
        }
    }

    /** A whole street; an hour makes a new one. */
    static final class Town {
        List<House> houses = new ArrayList<>();
        int flow, sea, in, out;
        List<Integer> open = new ArrayList<>();
        List<Town> before = new ArrayList<>();

        Town again() {
            Town t = new Town();
            for (House h : houses) {
                t.houses.add(h.again());
            }
            t.flow = flow;
            t.sea = sea;
            t.in = in;
            t.out = out;
            t.open = new ArrayList<>(open);
            t.before = new ArrayList<>(before);
            return t;
        }

        int nextLevel(int i) {
            return i == houses.size() - 1 ? sea : houses.get(i + 1).level();
        }

        Town hour(boolean isOpen) {
            Town t = again();
            t.before.add(this);
            t.open.add(isOpen ? 1 : 0);
            if (isOpen) {
                t.houses.get(0).water += flow;
                t.in += flow;
            }
            for (int i = 0; i < t.houses.size(); i++) {
                House h = t.houses.get(i);
                int difference = h.level() - t.nextLevel(i);
                int runs = difference <= 0 ? 0 : (int) Math.ceil(difference / 2.0);
                runs = runs > h.water ? h.water : runs;
                if ("dl".indexOf(h.letter) >= 0 && runs > 2) {
                    runs = 2;
                }
                if (h.shut) {
                    runs = 0;
                }
                h.water -= runs;
                h.ranNow = runs;
                if (i < t.houses.size() - 1) {
                    t.houses.get(i + 1).water += runs;
                } else {
                    t.out += runs;
                }
                if (h.letter == 'm') {
                    h.ground += runs < 2 ? 0 : 1;
                }
                if (h.letter == 'w') {
                    h.ground += (runs - runs % 2) / 2;
                }
            }
            for (House h : t.houses) {
                h.gotNow = 0;
                while (h.water > h.sill && h.inCellar < h.cellar) {
                    h.water--;
                    h.inCellar++;
                    h.gotNow++;
                }
            }
            return t;
        }

        int sum(ToIntFunction<House> of) {
            return houses.stream().mapToInt(of).sum();
        }
    }

    /** The streets behind the hours of a Tuesday. */
    static final class Day {
        final int plan;
        final Town from;
        final List<Town> behind = new ArrayList<>();

        Day(Town from, int plan) {
            this.from = from;
            this.plan = plan;
            Town t = from;
            for (int h = 0; h < 8; h++) {
                t = t.hour((plan & (1 << h)) != 0);
                behind.add(t);
            }
        }

        Town end() {
            return behind.get(7);
        }

        int harm() {
            return behind.stream()
                    .mapToInt(t -> t.sum(h -> h.letter == 's' ? h.gotNow * 2 : h.gotNow)).sum();
        }

        int ground() {
            return end().sum(h -> h.ground) - from.sum(h -> h.ground);
        }

        int becomesWet(int i) {
            for (int h = 0; h < 8; h++) {
                if (behind.get(h).houses.get(i).gotNow > 0) {
                    return h;
                }
            }
            return NONE;
        }

        int wet() {
            return IntStream.range(0, from.houses.size()).filter(i -> becomesWet(i) != NONE)
                    .map(i -> 1 << i).sum();
        }

        boolean cutOff(int hour, int i) {
            return behind.get(hour).houses.get(i).water > 1;
        }

        boolean boat(int hour, int i, int j) {
            return IntStream.rangeClosed(Math.min(i, j), Math.max(i, j))
                    .allMatch(k -> cutOff(hour, k));
        }

        int pairs(int hour) {
            int n = 0;
            for (int i = 0; i < from.houses.size(); i++) {
                for (int j = 0; j < i; j++) {
                    n += boat(hour, i, j) ? 1 : 0;
                }
            }
            return n;
        }

        int[] marks() {
            return IntStream.range(0, from.houses.size()).map(i -> behind.stream()
                    .mapToInt(t -> t.houses.get(i).water).max().getAsInt()).toArray();
        }

        int hours() {
            return Integer.bitCount(plan);
        }
    }

    private final Map<Integer, int[]> rows = new TreeMap<>();
    private final Map<Integer, byte[]> texts = new TreeMap<>();
    private final Map<Integer, Town> kept = new TreeMap<>();
    private Town town = new Town();
    private int told, latest;
    private final int[] found = new int[6];

    private int find(int f) {
        latest = f;
        found[f]++;
        return FINDING;
    }

    private int tell(int what, int answer) {
        told = what;
        return answer;
    }

    private static boolean in(int v, int a, int b) {
        return a <= v && v <= b;
    }

    private static boolean noRow(int... rs) {
        return Arrays.stream(rs).anyMatch(r -> !in(r, 0, 5));
    }

    private boolean noHouse(int i) {
        return !in(i, 0, town.houses.size() - 1);
    }

    private boolean empty() {
        return town.houses.isEmpty();
    }

    int row(int r, int n) {
        if (noRow(r) || n > 60) return BAD;
        if (n < 0) return find(5);
        rows.put(r, new int[n]);
        return n;
    }

    int lay(int r, int i, int v) {
        if (noRow(r)) return BAD;
        if (!rows.containsKey(r)) return find(1);
        if (!in(i, 0, rows.get(r).length - 1)) return find(2);
        int was = rows.get(r)[i];
        rows.get(r)[i] = v;
        return tell(was, 1);
    }

    int at(int r, int i) {
        if (noRow(r)) return BAD;
        if (!rows.containsKey(r)) return find(1);
        if (!in(i, 0, rows.get(r).length - 1)) return find(2);
        return tell(rows.get(r)[i], 1);
    }

    int tear(int r) {
        if (noRow(r)) return BAD;
        return rows.remove(r) == null ? find(1) : 1;
    }

    int copy(int r, int i, int to, int j, int n) {
        if (noRow(r, to)) return BAD;
        if (n < 0) return find(5);
        if (!rows.containsKey(r) || !rows.containsKey(to)) return find(1);
        int[] a = rows.get(r).clone();
        int[] b = rows.get(to);
        if (i < 0 || j < 0 || (long) i + n > a.length || (long) j + n > b.length) return find(2);
        for (int k = 0; k < n; k++) {
            b[j + k] = a[i + k];
        }
        return 1;
    }

    int mean(int r) {
        if (noRow(r)) return BAD;
        if (!rows.containsKey(r)) return find(1);
        if (rows.get(r).length == 0) return find(4);
        long sum = Arrays.stream(rows.get(r)).asLongStream().sum();
        return tell((int) (Long.signum(sum) * (Math.abs(sum) / rows.get(r).length)), 1);
    }

    int text(int t, int n) {
        if (!in(t, 0, 3) || n > 60) return BAD;
        if (n < 0) return find(5);
        byte[] b = new byte[n];
        Arrays.fill(b, (byte) 32);
        texts.put(t, b);
        return n;
    }

    int put(int t, int i, int v) {
        if (!in(t, 0, 3)) return BAD;
        if (!texts.containsKey(t)) return find(1);
        if (!in(i, 0, texts.get(t).length - 1)) return find(2);
        int was = texts.get(t)[i];
        texts.get(t)[i] = (byte) v;
        return 1000 + was;
    }

    private String signs(int t) {
        StringBuilder b = new StringBuilder();
        for (byte sign : texts.get(t)) {
            b.append((char) (sign & 255));
        }
        return b.toString();
    }

    private static int faultOf(String s) {
        for (int n = 1; n <= s.length(); n++) {
            Matcher m = STREET.matcher(s.substring(0, n));
            if (!m.matches() && !m.hitEnd()) {
                return n - 1;
            }
        }
        return STREET.matcher(s).matches() ? NONE : s.length();
    }

    int fault(int t) {
        if (!in(t, 0, 3)) return BAD;
        return texts.containsKey(t) ? faultOf(signs(t)) : find(1);
    }

    int street(int t) {
        if (!in(t, 0, 3)) return BAD;
        if (!texts.containsKey(t)) return find(1);
        if (faultOf(signs(t)) != NONE) return STATE;
        String s = signs(t).replace(" ", "");
        town = new Town();
        kept.clear();
        town.flow = s.charAt(1) - '0';
        town.sea = s.charAt(2) - '0';
        for (int i = 3; i < s.length(); i += 4) {
            House h = new House();
            h.letter = s.charAt(i);
            h.floor = s.charAt(i + 1) - '0';
            h.sill = s.charAt(i + 2) - '0';
            h.cellar = s.charAt(i + 3) - '0';
            town.houses.add(h);
        }
        return town.houses.size();
    }

    int ofHouse(int i, int what) {
        House h = town.houses.get(i);
        return new int[] {LETTERS.indexOf(h.letter), h.floor, h.sill, h.cellar, h.water,
            h.inCellar, h.ground}[what];
    }

    int house(int i, int what) {
        return noHouse(i) || !in(what, 0, 6) ? BAD : tell(ofHouse(i, what), 1);
    }

    int mark(int i, int kind) {
        if (noHouse(i) || !in(kind, 1, 5)) return BAD;
        House h = town.houses.get(i);
        if (!h.is(kind)) return find(3);
        House then = town.hour(true).houses.get(i);
        return switch (kind) {
            case 1 -> then.ranNow;
            case 2 -> h.cellar - h.inCellar;
            case 3 -> h.level() - town.nextLevel(i);
            case 4 -> then.ground - h.ground;
            default -> h.shut ? 1 : 0;
        };
    }

    int sill(int i, int v) {
        if (noHouse(i) || !in(v, 0, 20)) return BAD;
        int was = town.houses.get(i).sill;
        town.houses.get(i).sill = v;
        return was;
    }

    int flow(int v) {
        if (!in(v, 1, 9)) return BAD;
        if (empty()) return STATE;
        int was = town.flow;
        town.flow = v;
        return was;
    }

    int shut(int i, int is) {
        if (noHouse(i) || !in(is, 0, 1)) return BAD;
        House h = town.houses.get(i);
        if (h.letter != 'l') return find(3);
        int was = h.shut ? 1 : 0;
        h.shut = is == 1;
        return was;
    }

    int pump(int i) {
        if (noHouse(i)) return BAD;
        House h = town.houses.get(i);
        int much = h.inCellar;
        h.inCellar = 0;
        town.out += much;
        return much;
    }

    // What is kept as "before" must not change with the sills, so that it is a copy.
    private void goOn(boolean open) {
        town = town.again().hour(open);
    }

    int hour(int open) {
        if (!in(open, 0, 1)) return BAD;
        if (empty()) return STATE;
        if (town.open.size() == 60) return FULL;
        int out = town.out;
        goOn(open == 1);
        return tell(town.out - out, town.sum(h -> h.water));
    }

    int undo(int n) {
        int hours = town.open.size();
        if (!in(n, 0, hours)) return BAD;
        if (n == hours) return 0;
        Town back = town.before.get(n).again();
        back.flow = town.flow;
        for (int i = 0; i < back.houses.size(); i++) {
            back.houses.get(i).sill = town.houses.get(i).sill;
            back.houses.get(i).shut = town.houses.get(i).shut;
        }
        town = back;
        return hours - n;
    }

    int water() {
        return tell(town.out, town.in);
    }

    int keep(int k) {
        if (!in(k, 0, 2)) return BAD;
        if (empty()) return STATE;
        kept.put(k, town.again());
        return town.open.size();
    }

    int on(int k) {
        if (!in(k, 0, 2)) return BAD;
        if (!kept.containsKey(k)) return find(1);
        town = kept.get(k).again();
        return town.open.size();
    }

    private Day day(int plan) {
        Town bare = town.again();
        bare.before.clear();
        bare.open.clear();
        return new Day(bare, plan);
    }

    private List<Day> allDays() {
        return IntStream.range(0, 256).mapToObj(this::day).collect(Collectors.toList());
    }

    int harm(int plan) {
        if (!in(plan, 0, 255)) return BAD;
        if (empty()) return STATE;
        return tell(day(plan).ground(), day(plan).harm());
    }

    int wet(int plan) {
        if (!in(plan, 0, 255)) return BAD;
        if (empty()) return STATE;
        return tell(Integer.bitCount(day(plan).wet()), day(plan).wet());
    }

    int when(int plan, int i) {
        return !in(plan, 0, 255) || noHouse(i) ? BAD : day(plan).becomesWet(i);
    }

    int cut(int plan, int hour) {
        if (!in(plan, 0, 255) || !in(hour, 0, 7)) return BAD;
        if (empty()) return STATE;
        Day d = day(plan);
        int bits = 0, n = 0;
        for (int i = 0; i < town.houses.size(); i++) {
            if (d.cutOff(hour, i)) {
                bits += Math.pow(2, i);
                n++;
            }
        }
        return tell(n, bits);
    }

    int boat(int plan, int hour, int i, int j) {
        if (!in(plan, 0, 255) || !in(hour, 0, 7) || noHouse(i) || noHouse(j)) return BAD;
        return day(plan).boat(hour, i, j) ? 1 : 0;
    }

    int trade(int plan) {
        if (!in(plan, 0, 255)) return BAD;
        if (empty()) return STATE;
        Day d = day(plan);
        int most = IntStream.range(0, 8).map(d::pairs).max().getAsInt();
        return tell(most, IntStream.range(0, 8).filter(h -> d.pairs(h) == most).min().getAsInt());
    }

    int marks(int plan, int r) {
        if (!in(plan, 0, 255) || noRow(r)) return BAD;
        if (empty()) return STATE;
        rows.put(r, day(plan).marks());
        return Arrays.stream(rows.get(r)).max().getAsInt();
    }

    int stands(int plan) {
        if (!in(plan, 0, 255)) return BAD;
        if (empty()) return STATE;
        return tell(day(plan).end().out - town.out, day(plan).end().sum(h -> h.water));
    }

    int tuesday(int plan) {
        if (!in(plan, 0, 255)) return BAD;
        if (empty()) return STATE;
        if (town.open.size() > 52) return FULL;
        int harm = day(plan).harm();
        for (int h = 0; h < 8; h++) {
            goOn((plan >> h) % 2 == 1);
        }
        return harm;
    }

    int most(int h) {
        if (!in(h, 0, 8)) return BAD;
        if (empty()) return STATE;
        Day best = allDays().stream().filter(d -> d.hours() == h)
                .min(Comparator.comparing((Day d) -> -d.ground()).thenComparing(Day::harm)
                        .thenComparing(d -> d.plan)).get();
        return tell(best.ground(), best.plan);
    }

    int least(int v) {
        if (!in(v, 0, 99)) return BAD;
        if (empty()) return STATE;
        Day best = allDays().stream().filter(d -> d.ground() >= v)
                .min(Comparator.comparing(Day::harm).thenComparing(Day::hours)
                        .thenComparing(d -> d.plan)).orElse(null);
        return best == null ? NONE : tell(best.harm(), best.plan);
    }

    int dry() {
        if (empty()) return STATE;
        Day best = allDays().stream().filter(d -> d.harm() == 0)
                .min(Comparator.comparing((Day d) -> -d.hours())
                        .thenComparing(d -> d.plan)).orElse(null);
        return best == null ? NONE : tell(best.plan, best.hours());
    }

    private int refusedMarks(int r) {
        if (noRow(r)) return BAD;
        if (empty()) return STATE;
        if (!rows.containsKey(r)) return find(1);
        if (rows.get(r).length != town.houses.size()) return find(5);
        return Arrays.stream(rows.get(r)).allMatch(v -> v == NONE || in(v, 0, 999)) ? 0 : find(3);
    }

    private List<Day> fitting(int r) {
        int[] seen = rows.get(r);
        return allDays().stream().filter(d -> {
            int[] marks = d.marks();
            return IntStream.range(0, seen.length)
                    .allMatch(i -> seen[i] == NONE || seen[i] == marks[i]);
        }).collect(Collectors.toList());
    }

    int led(int r) {
        int refused = refusedMarks(r);
        if (refused != 0) return refused;
        List<Day> fit = fitting(r);
        return tell(fit.isEmpty() ? NONE : fit.get(0).plan, fit.size());
    }

    int sure(int r) {
        int refused = refusedMarks(r);
        if (refused != 0) return refused;
        List<Day> fit = fitting(r);
        if (fit.isEmpty()) return find(4);
        int open = 0, not = 0;
        for (int h = 0; h < 8; h++) {
            int bit = 1 << h;
            open += fit.stream().allMatch(d -> (d.plan & bit) != 0) ? bit : 0;
            not += fit.stream().noneMatch(d -> (d.plan & bit) != 0) ? bit : 0;
        }
        return tell(not, open);
    }

    int look(int r) {
        int refused = refusedMarks(r);
        if (refused != 0) return refused;
        List<Day> fit = fitting(r);
        if (fit.isEmpty()) return find(4);
        int best = NONE, fewest = 999;
        for (int i = 0; i < town.houses.size(); i++) {
            if (rows.get(r)[i] == NONE) {
                Map<Integer, Integer> left = new HashMap<>();
                for (Day d : fit) {
                    left.merge(d.marks()[i], 1, Integer::sum);
                }
                int most = left.values().stream().max(Comparator.naturalOrder()).get();
                if (most < fewest) {
                    best = i;
                    fewest = most;
                }
            }
        }
        return best == NONE ? NONE : tell(fewest, best);
    }

    private int harmRaised(int plan, int[] by) {
        Town t = town.again();
        t.before.clear();
        for (int i = 0; i < by.length; i++) {
            t.houses.get(i).sill += by[i];
        }
        return new Day(t, plan).harm();
    }

    private int[] raiseBy(int plan, int[] by, int i, int left) {
        if (i == by.length) {
            return left == 0 && harmRaised(plan, by) == 0 ? by.clone() : null;
        }
        for (int v = 0; v <= left; v++) {
            by[i] = v;
            int[] way = raiseBy(plan, by, i + 1, left - v);
            if (way != null) {
                return way;
            }
        }
        by[i] = 0;
        return null;
    }

    int raise(int plan, int r) {
        if (!in(plan, 0, 255) || noRow(r)) return BAD;
        if (empty()) return STATE;
        for (int together = 0; together <= 4; together++) {
            int[] way = raiseBy(plan, new int[town.houses.size()], 0, together);
            if (way != null) {
                rows.put(r, way);
                return together;
            }
        }
        return NONE;
    }

    int whose(int plan) {
        if (!in(plan, 0, 255)) return BAD;
        if (empty()) return STATE;
        int[] harms = new int[town.houses.size()];
        for (int i = 0; i < harms.length; i++) {
            int[] by = new int[harms.length];
            by[i] = 1;
            harms[i] = harmRaised(plan, by);
        }
        int least = Arrays.stream(harms).min().getAsInt();
        int first = 0;
        while (harms[first] != least) {
            first++;
        }
        return tell(least, first);
    }

    private int refusedJobs(int takes, int due) {
        if (!rows.containsKey(takes) || !rows.containsKey(due)) return find(1);
        int[] a = rows.get(takes), b = rows.get(due);
        if (a.length > 6 || b.length > 6 || a.length != b.length) return find(5);
        return Arrays.stream(a).allMatch(v -> in(v, 1, 24))
                && Arrays.stream(b).allMatch(v -> in(v, 0, 99)) ? 0 : find(3);
    }

    private static void orders(List<Integer> so, List<Integer> rest, List<List<Integer>> all) {
        if (rest.isEmpty()) {
            all.add(so);
        }
        for (Integer next : rest) {
            List<Integer> more = new ArrayList<>(so);
            more.add(next);
            List<Integer> less = new ArrayList<>(rest);
            less.remove(next);
            orders(more, less, all);
        }
    }

    private static int late(List<Integer> order, int[] takes, int[] due) {
        int time = 0, late = 0;
        for (int job : order) {
            time += takes[job];
            late += time > due[job] ? time - due[job] : 0;
        }
        return late;
    }

    private static List<List<Integer>> ordersOf(List<Integer> jobs) {
        List<List<Integer>> all = new ArrayList<>();
        orders(new ArrayList<>(), jobs, all);
        return all;
    }

    int work(int takes, int due, int r) {
        if (noRow(takes, due, r)) return BAD;
        int refused = refusedJobs(takes, due);
        if (refused != 0) return refused;
        int[] a = rows.get(takes), b = rows.get(due);
        List<Integer> best = null;
        for (List<Integer> order : ordersOf(
                IntStream.range(0, a.length).boxed().collect(Collectors.toList()))) {
            if (best == null || late(order, a, b) < late(best, a, b)) {
                best = order;
            }
        }
        rows.put(r, best.stream().mapToInt(v -> v).toArray());
        return late(best, a, b);
    }

    int done(int takes, int due) {
        if (noRow(takes, due)) return BAD;
        int refused = refusedJobs(takes, due);
        if (refused != 0) return refused;
        int[] a = rows.get(takes), b = rows.get(due);
        int most = -1, which = 0;
        for (int set = 0; set < 1 << a.length; set++) {
            int bits = set;
            List<Integer> jobs = IntStream.range(0, a.length)
                    .filter(j -> (bits & (1 << j)) != 0).boxed().collect(Collectors.toList());
            if (jobs.size() > most
                    && ordersOf(jobs).stream().anyMatch(o -> late(o, a, b) == 0)) {
                most = jobs.size();
                which = set;
            }
        }
        return tell(which, most);
    }

    int calendar(int d, int p, int r, int s) {
        if (!in(d, 0, 9999) || !in(p, 1, 30) || noRow(r) || !in(s, -9, 9)) return BAD;
        if (!rows.containsKey(r)) return find(1);
        TreeSet<Integer> own = new TreeSet<>();
        for (int day : rows.get(r)) {
            if (!in(day, 0, 29) || day >= p) return find(3);
            own.add(day);
        }
        for (int start = 0; start + p <= d; start += p) {
            TreeSet<Integer> next = new TreeSet<>();
            for (int day : own) {
                next.add((day + s + 30 * p) % p);
            }
            own = next;
        }
        return own.contains(d % p) ? 1 : 0;
    }

    int years(int n, int seed) {
        if (!in(n, 1, 40) || !in(seed, 1, 2147483646)) return BAD;
        if (empty()) return STATE;
        Town t = town.again();
        t.before.clear();
        t.houses.forEach(h -> h.water = 0);
        int[] times = new int[t.houses.size()];
        java.math.BigInteger lot = java.math.BigInteger.valueOf(seed);
        int harm = 0;
        for (int year = 0; year < n; year++) {
            lot = lot.multiply(java.math.BigInteger.valueOf(48271))
                    .mod(java.math.BigInteger.valueOf(2147483647));
            t.houses.forEach(h -> h.inCellar = 0);
            Day d = new Day(t, lot.intValue() % 256);
            harm += d.harm();
            for (int i = 0; i < times.length; i++) {
                times[i] += d.becomesWet(i) == NONE ? 0 : 1;
            }
            t = d.end();
            t.before.clear();
        }
        int most = Arrays.stream(times).max().getAsInt();
        int first = 0;
        while (times[first] != most) {
            first++;
        }
        return tell(most == 0 ? NONE : first, harm);
    }

    int asked() {
        return told;
    }

    private long stands() {
        return town.sum(h -> h.water + h.inCellar);
    }

    private long shared() {
        return java.math.BigInteger.valueOf(stands())
                .gcd(java.math.BigInteger.valueOf(town.in)).longValue();
    }

    long upper() {
        return town.in == 0 ? 0 : stands() / shared();
    }

    long lower() {
        return town.in == 0 ? 1 : town.in / shared();
    }

    int count(int what) {
        return switch (what) {
            case 0 -> town.houses.size();
            case 1 -> town.open.size();
            case 2 -> town.sum(h -> h.is(1) ? 1 : 0);
            case 3 -> town.sum(h -> h.is(3) ? 1 : 0);
            case 4 -> town.sum(h -> h.shut ? 1 : 0);
            case 5 -> kept.size();
            case 6 -> rows.size();
            case 7 -> texts.size();
            default -> BAD;
        };
    }

    int finding() {
        return latest;
    }

    int findings(int f) {
        return in(f, 1, 5) ? found[f] : BAD;
    }

    long digest() {
        List<Integer> all = new ArrayList<>();
        for (int what = 0; what < 8; what++) {
            all.add(count(what));
        }
        all.addAll(List.of(empty() ? 0 : town.flow, empty() ? 0 : town.sea, town.in, town.out));
        for (int i = 0; i < town.houses.size(); i++) {
            for (int what = 0; what < 7; what++) {
                all.add(ofHouse(i, what));
            }
            all.add(town.houses.get(i).shut ? 1 : 0);
        }
        all.addAll(town.open);
        for (int k = 0; k < 3; k++) {
            all.add(kept.containsKey(k) ? kept.get(k).open.size() : -1);
        }
        for (int r = 0; r < 6; r++) {
            all.add(rows.containsKey(r) ? rows.get(r).length : -1);
            for (int v : rows.getOrDefault(r, new int[0])) {
                all.add(v);
            }
        }
        for (int t = 0; t < 4; t++) {
            all.add(texts.containsKey(t) ? texts.get(t).length : -1);
            for (byte v : texts.getOrDefault(t, new byte[0])) {
                all.add((int) v);
            }
        }
        long h = 17;
        for (int v : all) {
            h = 31 * h + v;
        }
        return h;
    }
}
