import java.math.BigInteger;
import java.util.ArrayList;
import java.util.HashMap;
import java.util.List;
import java.util.Map;

/** The document in its plainest form: every line is run, every fraction is a pair of big numbers. */
final class PlainHill {
    static final long NO = Long.MIN_VALUE;

    /** All that an image holds. */
    static final class Things {
        List<int[]> gates = new ArrayList<>();
        List<Integer> skills = new ArrayList<>();
        String tape = "";
        String slope = "";
        int slopes;
        int runs;
        List<int[]> seen = new ArrayList<>();
        List<int[]> book = new ArrayList<>();

        Things copy() {
            Things copy = new Things();
            copy.gates = copyRows(gates);
            copy.skills = new ArrayList<>(skills);
            copy.tape = tape;
            copy.slope = slope;
            copy.slopes = slopes;
            copy.runs = runs;
            copy.seen = copyRows(seen);
            copy.book = copyRows(book);
            return copy;
        }

        private static List<int[]> copyRows(List<int[]> rows) {
            List<int[]> copy = new ArrayList<>();
            for (int[] row : rows) {
                copy.add(row.clone());
            }
            return copy;
        }
    }

    /** A run by one line; took and over by place in the order. */
    static final class Run {
        int[] line;
        int[] took;
        int[] over;
        int time;
        int pace;
        BigInteger chances = BigInteger.ONE;
        boolean slides;
    }

    Things now = new Things();
    private Things image;
    private List<Integer> trace = new ArrayList<>();
    /** Runs by all lines, by all that they hang on; forgotten with every change. */
    private final Map<String, List<Run>> known = new HashMap<>();
    private final Map<Long, int[]> passes = new HashMap<>();

    void forget() {
        known.clear();
        passes.clear();
    }

    // ---- runs, by every line

    private Run go(int skier, int runs, boolean waxed, int[] order, int[] line, int from, int pace) {
        Run run = new Run();
        run.line = line;
        run.took = new int[order.length];
        run.over = new int[order.length];
        run.pace = pace;
        for (int place = from; place < order.length; place++) {
            int[] passed = pass(order[place], run.pace, line[place], now.skills.get(skier), runs, waxed);
            run.took[place] = passed[0];
            run.over[place] = passed[1];
            run.time += passed[0];
            run.slides |= passed[1] > 0;
            run.chances = run.chances.multiply(BigInteger.valueOf(20 - passed[1]));
            run.pace = passed[2];
        }
        return run;
    }

    private int[] pass(int number, int pace, int c, int skill, int runs, boolean waxed) {
        long key = ((((number * 10L + pace) * 3 + c) * 10 + skill) * 10000 + runs) * 2 + (waxed ? 1 : 0);
        return passes.computeIfAbsent(key, k -> passAfresh(number, pace, c, skill, runs, waxed));
    }

    /** What a gate takes, OVER there, PACE behind it. */
    private int[] passAfresh(int number, int pace, int c, int skill, int runs, boolean waxed) {
        int[] gate = now.gates.get(number);
        int kind = gate[0];
        int p = kind == 3 || kind == 6 ? Math.min(9, pace + 1) : pace;
        int t = gate[2];
        if (kind == 2 || kind == 5) {
            t += 2;
        }
        if (kind == 5 && SlopeText.last(now.slope, "fog") > skill) {
            t += gate[1];
        }
        int[] values = {number, kind, gate[2], pace, runs % 10, skill};
        int over = p + t + SlopeText.sum(now.slope, "ice", values) - 3 * c - skill - 4;
        over = over < 0 ? 0 : over > 20 ? 20 : over;
        int rut = SlopeText.last(now.slope, "rut");
        int takes = kind == 4 ? 90 - 8 * p : 60 - 4 * p;
        takes += 5 * c + 3 * over;
        takes += rut == 0 ? 0 : runs / rut;
        takes += kind == 6 ? gate[4 + runs % 4] : 0;
        takes -= waxed ? SlopeText.sum(now.slope, "wax", values) : 0;
        int behind = p + 1 + (c == 2 ? 1 : 0) - t / 3 - over + (kind == 1 || kind == 4 ? 2 : 0);
        return new int[] {Math.max(1, takes), over, behind < 0 ? 0 : behind > 9 ? 9 : behind};
    }

    private int[] plainOrder() {
        int[] order = new int[now.gates.size()];
        for (int i = 0; i < order.length; i++) {
            order[i] = i;
        }
        return order;
    }

    /** Runs by all lines, the lesser first; with a beginning of the order left out, its lines are 0. */
    private List<Run> all(int skier, int runs, boolean waxed, int[] order, int from, int pace) {
        String key = skier + " " + runs + " " + waxed + " " + java.util.Arrays.toString(order) + from + " " + pace;
        List<Run> list = known.get(key);
        if (list == null) {
            list = new ArrayList<>();
            int many = 1;
            for (int i = from; i < order.length; i++) {
                many *= 3;
            }
            for (int n = 0; n < many; n++) {
                int[] line = new int[order.length];
                int rest = n;
                for (int i = order.length - 1; i >= from; i--) {
                    line[i] = rest % 3;
                    rest /= 3;
                }
                list.add(go(skier, runs, waxed, order, line, from, pace));
            }
            known.put(key, list);
        }
        return list;
    }

    private List<Run> all(int skier) {
        return all(skier, now.runs, true, plainOrder(), 0, 3);
    }

    private static Run quickestOf(List<Run> runs) {
        Run best = null;
        for (Run run : runs) {
            if (best == null || run.time < best.time) {
                best = run;
            }
        }
        return best;
    }

    private int least(int skier) {
        return quickestOf(all(skier)).time;
    }

    private Run byTheLine(int skier) {
        int[] line = new int[now.gates.size()];
        for (int i = 0; i < line.length; i++) {
            line[i] = now.gates.get(i)[3];
        }
        return go(skier, now.runs, true, plainOrder(), line, 0, 3);
    }

    private Run safest(int skier, int limit) {
        Run best = null;
        for (Run run : all(skier)) {
            if (run.time <= limit && (best == null || run.chances.compareTo(best.chances) > 0)) {
                best = run;
            }
        }
        return best;
    }

    private List<Run> fitting(int skier) {
        List<Run> list = new ArrayList<>();
        for (Run run : all(skier)) {
            boolean so = true;
            for (int[] seen : now.seen) {
                int took = 0;
                for (int i = 0; i <= seen[0]; i++) {
                    took += run.took[i];
                }
                so &= took == seen[1];
            }
            if (so) {
                list.add(run);
            }
        }
        return list;
    }

    private static long lowest(BigInteger above, BigInteger below, int part) {
        BigInteger common = above.gcd(below);
        return (part == 0 ? above : below).divide(common).longValueExact();
    }

    private BigInteger allChances() {
        return BigInteger.valueOf(20).pow(now.gates.size());
    }

    private boolean noGate(int gate) {
        return gate < 0 || gate >= now.gates.size();
    }

    private boolean noSkier(int skier) {
        return skier < 0 || skier >= now.skills.size();
    }

    private static boolean not(int n, int low, int high) {
        return n < low || n > high;
    }

    private static int at(Run run, int k) {
        if (run == null) {
            return -5;
        }
        if (k == -1) {
            return run.time;
        }
        return k < run.line.length ? run.line[k] : -5;
    }

    // ---- the calls

    int feed(int sign) {
        if (not(sign, 0, 127)) {
            return -2;
        }
        if (now.tape.length() == 100) {
            return -4;
        }
        now.tape += (char) sign;
        return now.tape.length();
    }

    int slope() {
        if (now.slopes == 5) {
            return -4;
        }
        String text = now.tape;
        now.tape = "";
        int fault = SlopeText.fault(text);
        if (fault >= 0) {
            return -10 - fault;
        }
        now.slope = text;
        return now.slopes++;
    }

    int gate(int kind, int v, int turn) {
        if (not(kind, 0, 6)) {
            return -1;
        }
        if (not(v, 0, 9) || not(turn, 0, 9)) {
            return -2;
        }
        if (now.gates.size() == 7) {
            return -4;
        }
        now.gates.add(new int[] {kind, v, turn, 1, 0, 0, 0, 0});
        return now.gates.size() - 1;
    }

    int of(int gate, int what) {
        return noGate(gate) || not(what, 0, 3) ? -1 : now.gates.get(gate)[what];
    }

    private int change(int gate, int at, int n) {
        int was = now.gates.get(gate)[at];
        now.gates.get(gate)[at] = n;
        return was;
    }

    int turn(int gate, int n) {
        return noGate(gate) ? -1 : not(n, 0, 9) ? -2 : change(gate, 2, n);
    }

    int plan(int gate, int c) {
        return noGate(gate) ? -1 : not(c, 0, 2) ? -2 : change(gate, 3, c);
    }

    int row(int gate, int k, int n) {
        if (noGate(gate) || not(k, 0, 3)) {
            return -1;
        }
        if (not(n, 0, 9)) {
            return -2;
        }
        return now.gates.get(gate)[0] != 6 ? -3 : change(gate, 4 + k, n);
    }

    int skier(int skill) {
        if (not(skill, 0, 9)) {
            return -2;
        }
        if (now.skills.size() == 5) {
            return -4;
        }
        now.skills.add(skill);
        return now.skills.size() - 1;
    }

    int skill(int skier, int n) {
        if (noSkier(skier)) {
            return -1;
        }
        if (not(n, -1, 9)) {
            return -2;
        }
        return n == -1 ? now.skills.get(skier) : now.skills.set(skier, n);
    }

    int told(int what) {
        switch (what) {
            case 0: return now.runs;
            case 1: return SlopeText.last(now.slope, "rut");
            case 2: return SlopeText.last(now.slope, "fog");
            default: return -1;
        }
    }

    int run(int skier) {
        if (noSkier(skier)) {
            return -1;
        }
        if (now.runs == 9999) {
            return -3;
        }
        int time = byTheLine(skier).time;
        now.runs++;
        return time;
    }

    int would(int skier, int what) {
        if (noSkier(skier)) {
            return -1;
        }
        Run run = byTheLine(skier);
        int size = now.gates.size();
        if (what >= 10 && what < 10 + size) {
            return run.took[what - 10];
        }
        if (what >= 20 && what < 20 + size) {
            return run.over[what - 20];
        }
        return what == 0 ? run.time : what == 1 ? run.pace : what == 2 ? (run.slides ? 1 : 0) : -1;
    }

    int quickest(int skier, int k) {
        return noSkier(skier) || not(k, -1, 6) ? -1 : at(quickestOf(all(skier)), k);
    }

    int clean(int skier, int k) {
        if (noSkier(skier) || not(k, -1, 6)) {
            return -1;
        }
        List<Run> held = new ArrayList<>();
        for (Run run : all(skier)) {
            if (!run.slides) {
                held.add(run);
            }
        }
        return at(quickestOf(held), k);
    }

    long up(int skier, int part) {
        return noSkier(skier) || not(part, 0, 1) ? NO : lowest(byTheLine(skier).chances, allChances(), part);
    }

    private long likely(int skier, int limit, int part) {
        Run run = safest(skier, limit);
        return lowest(run == null ? BigInteger.ZERO : run.chances, allChances(), part);
    }

    long surest(int skier, int time, int part) {
        return noSkier(skier) || not(time, 0, 999) || not(part, 0, 1) ? NO : likely(skier, time, part);
    }

    int sure(int skier, int time, int k) {
        if (noSkier(skier) || not(k, 0, 6)) {
            return -1;
        }
        return not(time, 0, 999) ? -2 : at(safest(skier, time), k);
    }

    int carry(int skier, int gate) {
        if (noSkier(skier) || noGate(gate)) {
            return -10001;
        }
        int by3 = quickestOf(all(skier, now.runs, true, plainOrder(), gate, 3)).time;
        int by6 = quickestOf(all(skier, now.runs, true, plainOrder(), gate, 6)).time;
        return by3 - by6;
    }

    int start(int skier, int n) {
        if (noSkier(skier)) {
            return -1;
        }
        return not(n, 0, 99) ? -2 : quickestOf(all(skier, n, true, plainOrder(), 0, 3)).time;
    }

    int rutted(int skier) {
        if (noSkier(skier)) {
            return -1;
        }
        int[] at0 = quickestOf(all(skier, 0, true, plainOrder(), 0, 3)).line;
        for (int n = 1; n <= 99; n++) {
            if (!java.util.Arrays.equals(at0, quickestOf(all(skier, n, true, plainOrder(), 0, 3)).line)) {
                return n;
            }
        }
        return -5;
    }

    int wax(int skier) {
        return noSkier(skier) ? -1 : quickestOf(all(skier, now.runs, false, plainOrder(), 0, 3)).time - least(skier);
    }

    int loses(int one, int other, int what) {
        if (noSkier(one) || noSkier(other) || not(what, 0, 1)) {
            return -1;
        }
        if (one == other) {
            return -2;
        }
        Run a = quickestOf(all(one));
        Run b = quickestOf(all(other));
        int where = -5;
        int most = -5;
        for (int i = 0; i < a.took.length; i++) {
            if (a.took[i] - b.took[i] > Math.max(0, most)) {
                where = i;
                most = a.took[i] - b.took[i];
            }
        }
        return what == 0 ? where : most;
    }

    long wins(int one, int other, int what, int part) {
        if (noSkier(one) || noSkier(other) || one == other || not(what, 0, 1) || not(part, 0, 1)) {
            return NO;
        }
        Run a = quickestOf(all(one));
        Run b = quickestOf(all(other));
        BigInteger all = allChances();
        BigInteger sum = BigInteger.ZERO;
        for (int ups = 0; ups < 4; ups++) {
            boolean upA = ups % 2 == 1;
            boolean upB = ups / 2 == 1;
            boolean first = upA && (!upB || b.time > a.time);
            boolean even = !upA && !upB || upA && upB && a.time == b.time;
            if (what == 0 ? first : even) {
                BigInteger x = upA ? a.chances : all.subtract(a.chances);
                BigInteger y = upB ? b.chances : all.subtract(b.chances);
                sum = sum.add(x.multiply(y));
            }
        }
        return lowest(sum, all.multiply(all), part);
    }

    long risk(int one, int other, int d, int part) {
        if (noSkier(one) || noSkier(other) || one == other || not(d, -99, 99) || not(part, 0, 1)) {
            return NO;
        }
        return likely(one, least(other) - d, part);
    }

    int set(int one, int other) {
        if (noSkier(one) || noSkier(other)) {
            return -1;
        }
        if (one == other) {
            return -2;
        }
        int best = least(one) - least(other);
        int pair = -5;
        for (int a = 0; a < now.gates.size(); a++) {
            for (int b = a + 1; b < now.gates.size(); b++) {
                int[] order = plainOrder();
                order[a] = b;
                order[b] = a;
                int then = quickestOf(all(one, now.runs, true, order, 0, 3)).time
                        - quickestOf(all(other, now.runs, true, order, 0, 3)).time;
                if (then < best) {
                    best = then;
                    pair = 10 * a + b;
                }
            }
        }
        return pair;
    }

    int rank(int k) {
        if (noSkier(k)) {
            return -1;
        }
        List<Integer> skiers = new ArrayList<>();
        for (int i = 0; i < now.skills.size(); i++) {
            skiers.add(i);
        }
        skiers.sort((a, b) -> least(a) != least(b) ? least(a) - least(b) : a - b);
        return skiers.get(k);
    }

    long mean(int part) {
        if (not(part, 0, 1) || now.skills.isEmpty()) {
            return NO;
        }
        long sum = 0;
        for (int i = 0; i < now.skills.size(); i++) {
            sum += least(i);
        }
        return lowest(BigInteger.valueOf(sum), BigInteger.valueOf(now.skills.size()), part);
    }

    int slowest(int skier) {
        if (noSkier(skier)) {
            return -1;
        }
        int[] took = byTheLine(skier).took;
        int where = -5;
        for (int i = 0; i < took.length; i++) {
            if (where == -5 || took[i] > took[where]) {
                where = i;
            }
        }
        return where;
    }

    int see(int gate, int time) {
        if (gate == -1) {
            now.seen.clear();
            return 0;
        }
        return noGate(gate) ? -1 : note(now.seen, 7, gate, time);
    }

    private static int note(List<int[]> rows, int room, int key, int time) {
        if (not(time, 0, 9999)) {
            return -2;
        }
        if (rows.size() == room) {
            return -4;
        }
        rows.add(new int[] {key, time});
        return rows.size();
    }

    int fits(int skier, int k) {
        if (noSkier(skier) || not(k, -1, 6)) {
            return -1;
        }
        List<Run> list = fitting(skier);
        return k == -1 ? list.size() : at(list.isEmpty() ? null : list.get(0), k);
    }

    int who() {
        int bits = 0;
        for (int i = 0; i < now.skills.size(); i++) {
            bits += fitting(i).isEmpty() ? 0 : 1 << i;
        }
        return bits;
    }

    int book(int skier, int time) {
        if (skier == -1) {
            now.book.clear();
            return 0;
        }
        return noSkier(skier) ? -1 : note(now.book, 8, skier, time);
    }

    int looked() {
        for (int i = 0; i < now.book.size(); i++) {
            if (least(now.book.get(i)[0]) != now.book.get(i)[1]) {
                return i;
            }
        }
        return -5;
    }

    int act(int gate, int act, int x) {
        if (noGate(gate) || not(act, 0, 2)) {
            trace = new ArrayList<>();
            return 0;
        }
        int answer = PlainActs.act(now.gates.get(gate)[0], now.gates.get(gate)[1], gate, act, x);
        trace = PlainActs.trace;
        return answer;
    }

    int trace(int i) {
        return not(i, 0, Math.min(20, trace.size()) - 1) ? -1 : trace.get(i);
    }

    int as(int gate, int k) {
        if (noGate(gate) || not(k, 0, 6)) {
            return -1;
        }
        return PlainActs.isUnder(now.gates.get(gate)[0], k) ? now.gates.get(gate)[1] : -6;
    }

    int image() {
        image = now.copy();
        return now.gates.size();
    }

    int undo() {
        if (image == null) {
            return -3;
        }
        now = image.copy();
        return now.gates.size();
    }

    int count(int what) {
        int[] counts = {now.gates.size(), now.skills.size(), now.slopes, now.seen.size(), now.book.size(),
            now.tape.length(), trace.size()};
        return not(what, 0, 6) ? -1 : counts[what];
    }
}
