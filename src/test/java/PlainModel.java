import java.util.ArrayList;
import java.util.Arrays;
import java.util.List;
import java.util.regex.Matcher;
import java.util.regex.Pattern;

/**
 * The document once more, as plainly as can be: everything is worked out anew from its definitions and
 * every way, every set is tried. It shares no code with StationPasses, so that a slip in one shows.
 */
final class PlainModel {
    static final int BAD = -1, NO = -2, FULL = -3, NONE = -4;
    /** More sets than that are not tried: see canTryAllSets. */
    private static final int MOST_SETS = 20_000;

    record Sat(int phase, int period, int band, int holds, int fills) { }
    record Station(int lag, int width) { }
    record Antenna(int station, int kind, int setup) { }
    record Pass(int first, int last, int sat, int station) { }
    record Moment(int[] has, int[] from, int[] to) { }
    record Way(int[] has, int changes, int contacts, int volume, int lost) { }

    private static final Pattern SAT = Pattern.compile("s(\\d\\d?),(\\d\\d?),(\\d\\d?),(\\d\\d?),(\\d\\d?);");
    private static final Pattern STATION = Pattern.compile("g(\\d\\d?),(\\d\\d?);");
    private static final Pattern ANTENNA = Pattern.compile("a(\\d\\d?),(\\d\\d?),(\\d\\d?);");

    private List<Sat> sats = new ArrayList<>();
    private List<Station> stations = new ArrayList<>();
    private List<Antenna> antennas = new ArrayList<>();
    private List<Pass> passes = new ArrayList<>();
    private Moment now = new Moment(new int[0], new int[0], new int[0]);
    private final List<Moment> past = new ArrayList<>();
    private String text = "";

    PlainModel() {
        text = "s0,20,0,30,1;s7,25,1,40,2;s13,18,1,20,1;g0,6;g9,8;a0,2,1;a0,0,0;a1,1,2;";
        lay();
        text = "";
    }

    int write(int letter) {
        if (letter < 32 || letter > 126) return BAD;
        if (text.length() == 200) return FULL;
        text += (char) letter;
        return text.length();
    }

    int wipe() {
        int length = text.length();
        text = "";
        return length;
    }

    int fault() {
        return read(new ArrayList<>(), new ArrayList<>(), new ArrayList<>());
    }

    private int read(List<Sat> s, List<Station> g, List<Antenna> a) {
        int place = 0;
        while (place < text.length()) {
            String rest = text.substring(place);
            Matcher ms = SAT.matcher(rest), mg = STATION.matcher(rest), ma = ANTENNA.matcher(rest);
            if (ms.lookingAt() && s.size() < 4 && in(ms, 1, 0, 59) && in(ms, 2, 6, 60) && in(ms, 3, 0, 1)
                    && in(ms, 4, 1, 99) && in(ms, 5, 0, 9)) {
                s.add(new Sat(n(ms, 1), n(ms, 2), n(ms, 3), n(ms, 4), n(ms, 5)));
                place += ms.end();
            } else if (mg.lookingAt() && g.size() < 3 && in(mg, 1, 0, 59) && in(mg, 2, 1, 9)) {
                g.add(new Station(n(mg, 1), n(mg, 2)));
                place += mg.end();
            } else if (ma.lookingAt() && a.size() < 4 && in(ma, 1, 0, g.size() - 1) && in(ma, 2, 0, 2) && in(ma, 3, 0, 5)) {
                a.add(new Antenna(n(ma, 1), n(ma, 2), n(ma, 3)));
                place += ma.end();
            } else {
                return place;
            }
        }
        return NONE;
    }

    private static int n(Matcher m, int group) {
        return Integer.parseInt(m.group(group));
    }

    private static boolean in(Matcher m, int group, int low, int high) {
        return n(m, group) >= low && n(m, group) <= high;
    }

    int lay() {
        List<Sat> s = new ArrayList<>();
        List<Station> g = new ArrayList<>();
        List<Antenna> a = new ArrayList<>();
        if (read(s, g, a) != NONE) return NO;
        sats = s;
        stations = g;
        antennas = a;
        passes = new ArrayList<>();
        for (int t = 0; t < 60; t++)
            for (int i = 0; i < s.size(); i++)
                for (int j = 0; j < g.size(); j++)
                    if (isSeen(i, j, t) && !(t > 0 && isSeen(i, j, t - 1))) {
                        int end = t;
                        while (end < 59 && isSeen(i, j, end + 1)) end++;
                        passes.add(new Pass(t, end, i, j));
                    }
        if (passes.size() > 24) passes = new ArrayList<>(passes.subList(0, 24));
        int[] has = new int[passes.size()];
        int[] from = new int[a.size()];
        int[] to = new int[a.size()];
        Arrays.fill(has, NONE);
        Arrays.fill(from, NONE);
        Arrays.fill(to, NONE);
        now = new Moment(has, from, to);
        past.clear();
        return passes.size();
    }

    private boolean isSeen(int i, int j, int t) {
        int rest = t - sats.get(i).phase - stations.get(j).lag;
        while (rest < 0) rest += sats.get(i).period;
        while (rest >= sats.get(i).period) rest -= sats.get(i).period;
        return rest < stations.get(j).width;
    }

    private boolean isSat(int i) { return i >= 0 && i < sats.size(); }
    private boolean isAntenna(int a) { return a >= 0 && a < antennas.size(); }
    private boolean isPass(int p) { return p >= 0 && p < passes.size(); }
    private static boolean isSlot(int t) { return t >= 0 && t < 60; }

    int sat(int i, int what) {
        if (!isSat(i)) return BAD;
        Sat s = sats.get(i);
        if (what == 0) return s.phase;
        if (what == 1) return s.period;
        if (what == 2) return s.band;
        if (what == 3) return s.holds;
        if (what == 4) return s.fills;
        if (what == 5) return (int) passes.stream().filter(p -> p.sat == i).count();
        if (what != 6) return BAD;
        int n = 0;
        for (int p = 0; p < passes.size(); p++) if (passes.get(p).sat == i && now.has[p] != NONE) n++;
        return n;
    }

    int antenna(int a, int what) {
        if (!isAntenna(a)) return BAD;
        Antenna x = antennas.get(a);
        if (what == 0) return x.station;
        if (what == 1) return x.kind;
        if (what == 2) return x.setup;
        if (what == 3) return now.from[a];
        if (what == 4) return now.to[a];
        if (what == 5) return (int) Arrays.stream(now.has).filter(h -> h == a).count();
        if (what != 6) return BAD;
        int n = 0;
        for (int t = 0; t < 60; t++)
            for (int p = 0; p < passes.size(); p++)
                if (now.has[p] == a && covers(p, t)) { n++; break; }
        return n;
    }

    int seen(int i, int j, int t) {
        if (!isSat(i) || j < 0 || j >= stations.size() || !isSlot(t)) return BAD;
        return isSeen(i, j, t) ? 1 : 0;
    }

    private boolean covers(int p, int t) {
        return passes.get(p).first <= t && t <= passes.get(p).last;
    }

    private int rateOf(int p, int t) {
        Pass x = passes.get(p);
        int n = x.last - x.first + 1, k = t - x.first;
        double r = 1 + Math.min(k, n - 1 - k);
        if (sats.get(x.sat).band == 1) r = r * 1.5;
        return (int) (2 * r);
    }

    private int volume(int p) {
        int v = 0;
        for (int t = 0; t < 60; t++) if (covers(p, t)) v += rateOf(p, t);
        return v;
    }

    int pass(int p, int what) {
        if (!isPass(p)) return BAD;
        Pass x = passes.get(p);
        if (what == 0) return x.first;
        if (what == 1) return x.last;
        if (what == 2) return x.sat;
        if (what == 3) return x.station;
        if (what == 4) return volume(p);
        if (what == 5) return now.has[p];
        if (what != 6) return BAD;
        int bits = 0;
        for (int a = 0; a < antennas.size(); a++) if (fits(p, a)) bits += 1 << a;
        return bits;
    }

    int rate(int p, int t) {
        if (!isPass(p) || !isSlot(t)) return BAD;
        return covers(p, t) ? rateOf(p, t) : NONE;
    }

    private boolean fits(int p, int a) {
        Pass x = passes.get(p);
        Antenna y = antennas.get(a);
        if (y.station != x.station) return false;
        if (y.kind == 0 && sats.get(x.sat).band != 0) return false;
        if (y.kind == 1 && sats.get(x.sat).band != 1) return false;
        for (int t = x.first; t <= x.last; t++)
            if (now.from[a] != NONE && now.from[a] <= t && t <= now.to[a]) return false;
        return true;
    }

    private boolean together(int p, int q, int a) {
        if (passes.get(p).first > passes.get(q).first) return together(q, p, a);
        return passes.get(q).first - passes.get(p).last > antennas.get(a).setup;
    }

    private boolean sameSatSameSlot(int p, int q) {
        if (passes.get(p).sat != passes.get(q).sat) return false;
        for (int t = 0; t < 60; t++) if (covers(p, t) && covers(q, t)) return true;
        return false;
    }

    int why(int p, int a) {
        if (!isPass(p) || !isAntenna(a)) return BAD;
        if (now.has[p] != NONE) return 1;
        if (!fits(p, a)) return 2;
        for (int q = 0; q < passes.size(); q++) if (now.has[q] == a && !together(p, q, a)) return 3;
        for (int q = 0; q < passes.size(); q++) if (now.has[q] != NONE && sameSatSameSlot(p, q)) return 4;
        return 0;
    }

    private void change() {
        past.add(copy());
        if (past.size() > 6) past.remove(0);
    }

    private Moment copy() {
        return new Moment(now.has.clone(), now.from.clone(), now.to.clone());
    }

    private int contacts() {
        return (int) Arrays.stream(now.has).filter(h -> h != NONE).count();
    }

    int give(int p, int a) {
        if (!isPass(p) || !isAntenna(a)) return BAD;
        if (why(p, a) != 0) return NO;
        change();
        now.has[p] = a;
        return contacts();
    }

    int take(int p) {
        if (!isPass(p)) return BAD;
        int had = now.has[p];
        if (had == NONE) return NO;
        change();
        now.has[p] = NONE;
        return had;
    }

    int out(int a, int from, int to) {
        if (!isAntenna(a) || !isSlot(from) || !isSlot(to)) return BAD;
        change();
        now.from[a] = from <= to ? from : NONE;
        now.to[a] = from <= to ? to : NONE;
        int lost = 0;
        for (int p = 0; p < passes.size(); p++)
            if (now.has[p] == a && !fits(p, a)) {
                now.has[p] = NONE;
                lost++;
            }
        return lost;
    }

    int undo() {
        if (past.isEmpty()) return NO;
        now = past.remove(past.size() - 1);
        return past.size();
    }

    /** Whether all sets for this antenna can be tried in a moment. */
    boolean canTryAllSets(int a) {
        return !isAntenna(a) || setsOf(a).size() < MOST_SETS;
    }

    int best(int a, int k) {
        if (!isAntenna(a) || k < -2) return BAD;
        List<List<Integer>> sets = setsOf(a);
        List<Integer> best = sets.get(0);
        for (List<Integer> set : sets) if (isBetterSet(set, best)) best = set;
        if (k == -1) return total(best);
        if (k == -2) return best.size();
        return k < best.size() ? best.get(k) : NONE;
    }

    private List<List<Integer>> setsOf(int a) {
        List<List<Integer>> sets = new ArrayList<>();
        allSets(a, 0, new ArrayList<>(), sets);
        return sets;
    }

    private int total(List<Integer> set) {
        return set.stream().mapToInt(this::volume).sum();
    }

    private boolean isBetterSet(List<Integer> x, List<Integer> y) {
        if (total(x) != total(y)) return total(x) > total(y);
        if (x.size() != y.size()) return x.size() < y.size();
        for (int i = 0; i < x.size(); i++) if (!x.get(i).equals(y.get(i))) return x.get(i) < y.get(i);
        return false;
    }

    private void allSets(int a, int p, List<Integer> chosen, List<List<Integer>> sets) {
        if (sets.size() >= MOST_SETS) return;
        if (p == passes.size()) {
            sets.add(new ArrayList<>(chosen));
            return;
        }
        allSets(a, p + 1, chosen, sets);
        boolean goes = fits(p, a);
        for (int q : chosen) goes = goes && together(p, q, a);
        if (goes) {
            chosen.add(p);
            allSets(a, p + 1, chosen, sets);
            chosen.remove(chosen.size() - 1);
        }
    }

    private boolean areContacts(int[] has) {
        for (int p = 0; p < has.length; p++) {
            if (has[p] == NONE) continue;
            if (!fits(p, has[p])) return false;
            for (int q = 0; q < p; q++) {
                if (has[q] == NONE) continue;
                if (has[q] == has[p] && !together(p, q, has[p])) return false;
                if (sameSatSameSlot(p, q)) return false;
            }
        }
        return true;
    }

    private Way findPlan(int law, int f, int c) {
        int size = Math.min(6, passes.size() - f);
        int choices = antennas.size() + 1;
        int ways = 1;
        for (int w = 0; w < size; w++) ways *= choices;
        Way best = null;
        for (int number = 0; number < ways; number++) {
            int[] has = now.has.clone();
            int rest = number, changes = 0, contacts = 0, volume = 0;
            for (int w = size - 1; w >= 0; w--) {
                int p = f + w, a = rest % choices - 1;
                rest /= choices;
                has[p] = a < 0 ? NONE : a;
                if (has[p] != now.has[p]) changes++;
                if (a >= 0) { contacts++; volume += volume(p); }
            }
            if (changes > c || !areContacts(has)) continue;
            Way way = new Way(has, changes, contacts, volume, allLost(has));
            if (best == null || isBetterWay(law, way, best)) best = way;
        }
        return best;
    }

    private static boolean isBetterWay(int law, Way x, Way y) {
        if (law == 0 && x.volume != y.volume) return x.volume > y.volume;
        if (law == 1 && x.lost != y.lost) return x.lost < y.lost;
        if (x.contacts != y.contacts) return x.contacts < y.contacts;
        return x.changes < y.changes;
    }

    private boolean isBadPlan(int law, int f, int c) {
        return law != 0 && law != 1 || !isPass(f) || c < 0 || c > 6;
    }

    int plan(int law, int f, int c, int k) {
        if (isBadPlan(law, f, c) || k < -4 || k >= Math.min(6, passes.size() - f)) return BAD;
        Way way = findPlan(law, f, c);
        if (k == -1) return way.volume;
        if (k == -2) return way.lost;
        if (k == -3) return way.contacts;
        if (k == -4) return way.changes;
        return way.has[f + k];
    }

    int adopt(int law, int f, int c) {
        if (isBadPlan(law, f, c)) return BAD;
        Way way = findPlan(law, f, c);
        change();
        System.arraycopy(way.has, 0, now.has, 0, now.has.length);
        return way.changes;
    }

    int bound(int f) {
        if (!isPass(f)) return BAD;
        int v = 0;
        for (int p = f; p < passes.size() && p < f + 6; p++) if (pass(p, 6) != 0) v += volume(p);
        return v;
    }

    /** In the store, lost, got behind a slot, and the first slot with a loss. */
    private int[] follow(int[] has, int i, int t) {
        int in = 0, lost = 0, got = 0, over = NONE;
        for (int slot = 0; slot <= t; slot++) {
            in += 2 * sats.get(i).fills;
            for (int p = 0; p < has.length; p++)
                if (has[p] != NONE && passes.get(p).sat == i && covers(p, slot)) {
                    int down = Math.min(in, rateOf(p, slot));
                    in -= down;
                    got += down;
                }
            int more = Math.max(0, in - 2 * sats.get(i).holds);
            if (more > 0 && over == NONE) over = slot;
            lost += more;
            in -= more;
        }
        return new int[] {in, lost, got, over};
    }

    private int allLost(int[] has) {
        int lost = 0;
        for (int i = 0; i < sats.size(); i++) lost += follow(has, i, 59)[1];
        return lost;
    }

    int store(int i, int t, int what) {
        if (!isSat(i) || !isSlot(t) || what < 0 || what > 2) return BAD;
        return follow(now.has, i, t)[what];
    }

    int over(int i) {
        return isSat(i) ? follow(now.has, i, 59)[3] : BAD;
    }

    int count(int what) {
        if (what == 0) return sats.size();
        if (what == 1) return stations.size();
        if (what == 2) return antennas.size();
        if (what == 3) return passes.size();
        if (what == 4) return contacts();
        if (what == 5) return past.size();
        if (what == 6) return text.length();
        if (what == 8) return allLost(now.has);
        if (what != 7 && what != 9) return BAD;
        int sum = 0;
        if (what == 7) for (int i = 0; i < sats.size(); i++) sum += follow(now.has, i, 59)[2];
        if (what == 9) for (int p = 0; p < passes.size(); p++) if (now.has[p] != NONE) sum += volume(p);
        return sum;
    }
}
