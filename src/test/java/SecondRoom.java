import java.util.ArrayList;
import java.util.HashMap;
import java.util.List;
import java.util.Map;

/** All calls once more, in the plainest way that can be thought of, to compare whole runs with. */
final class SecondRoom {
    private static final int BAD = -1, STATE = -2, FULL = -3, NONE = -4;

    private final StringBuilder tape = new StringBuilder();
    private SecondReader told = new SecondReader("");
    private int fault = 0;
    private int torn = 0;
    private final List<List<Integer>> hits = List.of(new ArrayList<>(), new ArrayList<>());
    private final List<int[]> pieces = new ArrayList<>();
    private final List<List<int[]>> lists = List.of(new ArrayList<>(), new ArrayList<>());
    private final Object[] sheets = new Object[4];

    private static boolean within(int v, int least, int greatest) {
        return v >= least && v <= greatest;
    }

    int feed(long v) {
        if (tape.length() + 8 > 400) return FULL;
        for (int shift = 56; shift >= 0; shift -= 8) tape.append((char) (v >>> shift & 255));
        return tape.length();
    }

    int end(int n) {
        int had = tape.length();
        if (!within(n, 0, had)) return BAD;
        tape.setLength(n);
        return had;
    }

    int text() {
        SecondReader reader = new SecondReader(tape.toString());
        tape.setLength(0);
        reader.readAll();
        fault = reader.fault;
        if (fault != 0) return -10 - reader.at;
        told = reader;
        return reader.lines;
    }

    int fault() {
        return fault;
    }

    private int props() {
        return told.trays.size();
    }

    private int cues() {
        return told.cues.size();
    }

    private boolean noCue(int c) {
        return !within(c, 0, cues() - 1);
    }

    private boolean noSet(int set, int of) {
        return !within(set, 0, (1 << of) - 1);
    }

    private static boolean has(int set, int i) {
        return (set & 1 << i) != 0;
    }

    private int at(int c, int what) {
        return told.cues.get(c)[what];
    }

    private int tray(int c) {
        return told.trays.get(at(c, 2));
    }

    private int reach(int p) {
        int bits = 1 << p;
        for (int round = 0; round < 8; round++) {
            for (int pair : told.stands) {
                if (has(bits, pair / 8)) bits |= 1 << pair % 8;
            }
        }
        return bits;
    }

    int prop(int p, int what) {
        if (!within(p, 0, props() - 1) || !within(what, 0, 1)) return BAD;
        return what == 0 ? told.trays.get(p) : reach(p);
    }

    int cue(int c, int what) {
        return noCue(c) || !within(what, 0, 4) ? BAD : at(c, what);
    }

    int rule(int what) {
        return within(what, 0, 3) ? told.rules[what] : BAD;
    }

    int shift(int c, int f) {
        if (noCue(c) || !within(f, 0, 500 - at(c, 1))) return BAD;
        int was = at(c, 0);
        told.cues.get(c)[0] = f;
        return was;
    }

    private boolean sounds(int c, int f) {
        return within(f, at(c, 0), at(c, 0) + at(c, 1) - 1);
    }

    private boolean areBeside(int a, int b) {
        for (int f = 0; f < 500; f++) {
            if (sounds(a, f) && sounds(b, f)) return true;
        }
        return false;
    }

    int behind(int a, int b) {
        if (noCue(a) || noCue(b)) return BAD;
        int earliest = at(a, 0) + at(a, 1) + (tray(a) == tray(b) ? 0 : told.rules[1]);
        return at(b, 0) >= earliest ? 1 : 0;
    }

    int beside(int c) {
        if (noCue(c)) return BAD;
        int bits = 0;
        for (int o = 0; o < cues(); o++) bits |= o != c && areBeside(o, c) ? 1 << o : 0;
        return bits;
    }

    private boolean notPlanned(int set) {
        return noSet(set, cues()) || Integer.bitCount(set) > 9;
    }

    /** For each cue of the set, by frames, its cue, pass and walker; the first row is how many passes there are. */
    private int[][] thePlan(int set) {
        List<Integer> order = new ArrayList<>();
        for (int c = 0; c < cues(); c++) {
            if (has(set, c)) order.add(c);
        }
        order.sort((a, b) -> at(a, 0) != at(b, 0) ? at(a, 0) - at(b, 0) : a - b);
        int[][] plan = new int[order.size() + 1][3];
        for (int i = 0; i < order.size(); i++) plan[i + 1][0] = order.get(i);
        while (!place(plan, 1, 0)) plan[0][0]++;
        return plan;
    }

    private boolean place(int[][] plan, int i, int used) {
        if (i == plan.length) return true;
        // A pass that none of those ahead is in is as good as the next such.
        for (int pass = 0; pass < Math.min(plan[0][0], used + 1); pass++) {
            for (int walker = 0; walker < told.rules[0]; walker++) {
                plan[i][1] = pass;
                plan[i][2] = walker;
                if (fits(plan, i) && place(plan, i + 1, Math.max(used, pass + 1))) return true;
            }
        }
        return false;
    }

    private boolean fits(int[][] plan, int i) {
        for (int j = 1; j < i; j++) {
            if (plan[j][1] != plan[i][1]) continue;
            int a = plan[j][0];
            int b = plan[i][0];
            if (plan[j][2] == plan[i][2] && behind(a, b) == 0) return false;
            if (tray(a) == tray(b) && at(b, 0) < at(a, 0) + at(a, 1)) return false;
        }
        return true;
    }

    private int going(int[][] plan) {
        int changes = 0;
        Map<Integer, Integer> latest = new HashMap<>();
        for (int i = 1; i < plan.length; i++) {
            Integer before = latest.put(plan[i][1] * 3 + plan[i][2], tray(plan[i][0]));
            if (before != null && before != tray(plan[i][0])) changes++;
        }
        return changes;
    }

    private int bound(int set) {
        int most = 0;
        for (int f = 0; f < 500; f++) {
            int all = 0;
            int[] onTray = new int[6];
            for (int c = 0; c < cues(); c++) {
                if (!has(set, c) || !sounds(c, f)) continue;
                all++;
                most = Math.max(most, ++onTray[tray(c)]);
            }
            most = Math.max(most, (int) Math.ceil(all / (double) told.rules[0]));
        }
        return most;
    }

    int passes(int set, int what) {
        if (notPlanned(set) || !within(what, 0, 2)) return BAD;
        return what == 0 ? thePlan(set)[0][0] : what == 1 ? going(thePlan(set)) : bound(set);
    }

    int plan(int set, int c, int what) {
        if (notPlanned(set) || noCue(c) || !has(set, c) || !within(what, 0, 1)) return BAD;
        int[][] plan = thePlan(set);
        for (int i = 1; i < plan.length; i++) {
            if (plan[i][0] == c) return plan[i][1 + what];
        }
        return BAD;
    }

    int does(int set, int pass, int walker) {
        if (notPlanned(set) || !within(walker, 0, told.rules[0] - 1)) return BAD;
        int[][] plan = thePlan(set);
        if (!within(pass, 0, plan[0][0] - 1)) return BAD;
        int bits = 0;
        for (int i = 1; i < plan.length; i++) bits |= plan[i][1] == pass && plan[i][2] == walker ? 1 << plan[i][0] : 0;
        return bits;
    }

    int hit(int side, int f) {
        if (!within(side, 0, 1) || !within(f, 0, 499)) return BAD;
        List<Integer> row = hits.get(side);
        if (!row.isEmpty() && f <= row.get(row.size() - 1)) return BAD;
        if (row.size() == 12) return FULL;
        row.add(f);
        return row.size();
    }

    int wipe() {
        int had = hits.get(0).size() + hits.get(1).size();
        hits.get(0).clear();
        hits.get(1).clear();
        return had;
    }

    private boolean unlike() {
        return hits.get(0).isEmpty() || hits.get(0).size() != hits.get(1).size();
    }

    private int missOf(int from, int to, int d) {
        int sum = 0;
        for (int k = from; k < to; k++) sum += Math.abs(hits.get(0).get(k) - (hits.get(1).get(k) + d));
        return sum;
    }

    int miss(int d) {
        if (!within(d, -20, 20)) return BAD;
        return unlike() ? STATE : missOf(0, hits.get(0).size(), d);
    }

    int slip(int what) {
        if (!within(what, 0, 1)) return -1000;
        if (unlike()) return -1002;
        int best = 0;
        for (int far = 0; far <= 20; far++) {
            if (miss(-far) < miss(best)) best = -far;
            if (miss(far) < miss(best)) best = far;
        }
        return what == 0 ? best : miss(best);
    }

    /** The least miss of the hits from one on, with so many cuts still, the one ahead being moved so far. */
    private int least(int from, int cutsLeft, int ahead, Map<Integer, Integer> known) {
        int n = hits.get(0).size();
        int key = (from * 4 + cutsLeft) * 50 + ahead + 20;
        Integer before = known.get(key);
        if (before != null) return before;
        int best = 1 << 20;
        for (int d = -20; d <= 20; d++) {
            if (from > 0 && hits.get(1).get(from) + d - (hits.get(1).get(from - 1) + ahead) <= told.rules[2]) continue;
            best = Math.min(best, missOf(from, n, d));
            for (int to = from + 1; to < n && cutsLeft > 0; to++) {
                if (hits.get(1).get(to) - hits.get(1).get(to - 1) <= told.rules[2]) continue;
                best = Math.min(best, missOf(from, to, d) + least(to, cutsLeft - 1, d, known));
            }
        }
        known.put(key, best);
        return best;
    }

    int cuts(int c) {
        if (!within(c, 0, 3)) return BAD;
        return unlike() ? STATE : least(0, c, 0, new HashMap<>());
    }

    int enough(int m) {
        if (!within(m, 0, 999)) return BAD;
        if (unlike()) return STATE;
        for (int c = 0; c <= 3; c++) {
            if (cuts(c) <= m) return c;
        }
        return NONE;
    }

    int speech(int f) {
        if (!within(f, 0, 499)) return BAD;
        int loudest = 0;
        for (int[] span : told.spans) {
            if (within(f, span[0], span[0] + span[1] - 1) && span[2] > loudest) loudest = span[2];
        }
        return loudest;
    }

    int heard(int c, int what) {
        if (noCue(c) || !within(what, 0, 1)) return BAD;
        int frames = 0;
        int first = NONE;
        for (int f = 499; f >= 0; f--) {
            if (!sounds(c, f) || at(c, 3) <= speech(f)) continue;
            frames++;
            first = f;
        }
        return what == 0 ? frames : first;
    }

    int masked() {
        int bits = 0;
        for (int c = 0; c < cues(); c++) bits |= heard(c, 0) == 0 ? 1 << c : 0;
        return bits;
    }

    private int levelOf(int c, int f, int n) {
        int now = Math.max(0, at(c, 3) - n);
        int end = at(c, 0) + at(c, 1);
        for (int from = end; from <= f; from += told.rules[2]) now = Math.max(0, now - 1);
        return f < at(c, 0) ? 0 : now;
    }

    int level(int set, int f, int n) {
        if (noSet(set, cues()) || !within(f, 0, 499) || !within(n, 0, 9)) return BAD;
        int sum = 0;
        for (int c = 0; c < cues(); c++) sum += has(set, c) ? levelOf(c, f, n) : 0;
        return sum;
    }

    int clips(int set, int what) {
        if (noSet(set, cues()) || !within(what, 0, 3)) return BAD;
        int[] answers = {0, NONE, 0, 0};
        for (int f = 499; f >= 0; f--) {
            int now = level(set, f, 0);
            if (now > told.rules[3]) {
                answers[0]++;
                answers[1] = f;
            }
            if (now >= answers[2]) {
                answers[2] = now;
                answers[3] = f;
            }
        }
        return answers[what];
    }

    int lower(int set) {
        if (noSet(set, cues())) return BAD;
        int n = 0;
        for (int f = 0; f < 500; f++) {
            while (level(set, f, n) > told.rules[3]) n++;
        }
        return n;
    }

    int carry(int set, int what) {
        if (noSet(set, cues()) || !within(what, 0, 1)) return BAD;
        int best = -1;
        for (int load = 0; load < 1 << props(); load++) {
            if (without(set, load) != 0) continue;
            if (best < 0 || Integer.bitCount(load) < Integer.bitCount(best)) best = load;
        }
        return what == 0 ? Integer.bitCount(best) : best;
    }

    int without(int set, int props) {
        if (noSet(set, cues()) || noSet(props, props())) return BAD;
        int reached = 0;
        for (int p = 0; p < props(); p++) reached |= has(props, p) ? reach(p) : 0;
        int bits = 0;
        for (int c = 0; c < cues(); c++) bits |= has(set, c) && !has(reached, at(c, 2)) ? 1 << c : 0;
        return bits;
    }

    int foreign(int props, int what) {
        if (noSet(props, props()) || !within(what, 0, 1)) return BAD;
        int bits = 0;
        for (int c = 0; c < cues(); c++) bits |= at(c, 4) == 1 && heard(c, 0) > 0 ? 1 << c : 0;
        return what == 0 ? bits : without(bits, props);
    }

    int piece(int f, int n) {
        if (!within(f, 0, 499) || !within(n, 1, 500 - f)) return BAD;
        if (pieces.size() == 8) return FULL;
        pieces.add(new int[] {f, n});
        return pieces.size();
    }

    int whole() {
        int had = pieces.size();
        pieces.clear();
        return had;
    }

    int anew(int what) {
        if (!within(what, 0, 3)) return BAD;
        if (what == 0) return pieces.stream().mapToInt(p -> p[1]).sum();
        int bits = 0;
        for (int c = 0; c < cues(); c++) bits |= fate(c) == what ? 1 << c : 0;
        return bits;
    }

    private int fate(int c) {
        if (moved(c) != NONE) return 1;
        for (int f = 0; f < 500; f++) {
            for (int[] p : pieces) {
                if (sounds(c, f) && within(f, p[0], p[0] + p[1] - 1)) return 2;
            }
        }
        return 3;
    }

    int moved(int c) {
        if (noCue(c)) return BAD;
        int place = 0;
        for (int[] p : pieces) {
            int last = p[0] + p[1] - 1;
            if (within(at(c, 0), p[0], last) && within(at(c, 0) + at(c, 1) - 1, p[0], last)) return place + at(c, 0) - p[0];
            place += p[1];
        }
        return NONE;
    }

    int entry(int list, int f, int prop) {
        if (!within(list, 0, 1) || !within(f, 0, 499) || !within(prop, 0, 7)) return BAD;
        List<int[]> row = lists.get(list);
        if (!row.isEmpty() && f < row.get(row.size() - 1)[0]) return BAD;
        if (row.size() == 12) return FULL;
        row.add(new int[] {f, prop});
        return row.size();
    }

    int tear() {
        int had = lists.get(0).size() + lists.get(1).size();
        lists.get(0).clear();
        lists.get(1).clear();
        return had;
    }

    private int mostPairs(int i, int free, int t, Map<Integer, Integer> known) {
        if (i == lists.get(0).size()) return 0;
        Integer before = known.get(i * 20 + free);
        if (before != null) return before;
        int most = mostPairs(i + 1, free, t, known);
        for (int j = free; j < lists.get(1).size(); j++) {
            if (alike(i, j, t)) most = Math.max(most, 1 + mostPairs(i + 1, j + 1, t, known));
        }
        known.put(i * 20 + free, most);
        return most;
    }

    private boolean alike(int i, int j, int t) {
        int[] a = lists.get(0).get(i);
        int[] b = lists.get(1).get(j);
        return a[1] == b[1] && Math.abs(a[0] - b[0]) <= t;
    }

    int joined(int t, int what) {
        int zero = lists.get(0).size();
        if (!within(t, 0, 99) || !within(what, 0, 2) && !within(what, 10, 9 + zero)) return BAD;
        Map<Integer, Integer> known = new HashMap<>();
        int pairs = mostPairs(0, 0, t, known);
        if (what < 3) return what == 0 ? pairs : lists.get(what - 1).size() - pairs;
        int free = 0;
        for (int i = 0; ; i++) {
            int partner = NONE;
            for (int j = lists.get(1).size() - 1; j >= free; j--) {
                if (alike(i, j, t) && 1 + mostPairs(i + 1, j + 1, t, known) == mostPairs(i, free, t, known)) partner = j;
            }
            if (i == what - 10) return partner;
            if (partner != NONE) free = partner + 1;
        }
    }

    int sheet(int k, int lane, int n) {
        if (!within(k, 0, 3) || !within(lane, 0, 2) || n > 40) return BAD;
        if (n < 0) return -14;
        sheets[k] = lane == 0 ? new byte[n] : lane == 1 ? new short[n] : new int[n];
        return 1;
    }

    /** Here the machine itself finds what is wrong. */
    int lay(int k, int i, int v) {
        if (!within(k, 0, 3)) return BAD;
        try {
            if (sheets[k] instanceof byte[] bytes) bytes[i] = (byte) v;
            else if (sheets[k] instanceof short[] shorts) shorts[i] = (short) v;
            else ((int[]) sheets[k])[i] = v;
        } catch (NullPointerException e) {
            return -11;
        } catch (ArrayIndexOutOfBoundsException e) {
            return -12;
        }
        return 1;
    }

    private int cell(int k, int lane, int i) {
        if (lane == 0) return ((byte[]) sheets[k])[i];
        return lane == 1 ? ((short[]) sheets[k])[i] : ((int[]) sheets[k])[i];
    }

    int read(int k, int lane, int f, int n) {
        if (!within(k, 0, 3) || !within(lane, 0, 2) || !within(n, 0, 10)) return BAD;
        List<int[]> came = new ArrayList<>();
        int found = 0;
        try {
            for (int i = 0; i < n; i++) {
                int[] c = new int[5];
                for (int j = 0; j < 4; j++) c[j] = cell(k, lane, f + 4 * i + j);
                boolean asTold = within(c[0], 0, 499) && within(c[1], 1, Math.min(60, 500 - c[0])) && within(c[2], 0, props() - 1);
                if (!asTold || !within(c[3], 1, 9)) return -20 - i;
                if (cues() + came.size() == 16) return FULL;
                came.add(c);
            }
        } catch (NullPointerException e) {
            found = 1;
        } catch (ArrayIndexOutOfBoundsException e) {
            found = 2;
        } catch (ClassCastException e) {
            found = 3;
        }
        told.cues.addAll(came);
        torn = found;
        return came.size();
    }

    int torn() {
        return torn;
    }

    int count(int what) {
        switch (what) {
            case 0: return props();
            case 1: return cues();
            case 2: return told.spans.size();
            case 3: return hits.get(0).size();
            case 4: return hits.get(1).size();
            case 5: return pieces.size();
            case 6: return lists.get(0).size();
            case 7: return lists.get(1).size();
            case 8: return tape.length();
            case 9: return sheets[0] == null ? NONE : java.lang.reflect.Array.getLength(sheets[0]);
            default: return BAD;
        }
    }
}
