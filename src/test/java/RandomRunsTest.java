import java.util.Random;

/** Runs of calls drawn by chance (from told seeds), each answered by the program and by the plain model. */
public final class RandomRunsTest {
    private static final int OBJECTS = 220, CALLS = 512;
    private static final String SPOILING = "rutfogwaxice 019;|&!()<=>gktprs\u0000\u007f";
    private static final Check CHECK = new Check();

    private final Random random;
    private final FortyGates program = new FortyGates();
    private final PlainHill plain = new PlainHill();
    private final String name;
    private final int mostGates;
    private int calls;

    private RandomRunsTest(int seed) {
        random = new Random(seed);
        name = "object " + seed;
        mostGates = seed % 20 == 0 ? 7 : 1 + seed % 5;
    }

    public static void main(String[] args) {
        for (int seed = 0; seed < OBJECTS; seed++) {
            RandomRunsTest test = new RandomRunsTest(seed);
            test.runAll();
            if (CHECK.wrong() > 0) {
                break;
            }
        }
        for (int seed = 0; seed < 400; seed++) {
            new RandomRunsTest(seed).readSlopes();
        }
        CHECK.end();
    }

    private void runAll() {
        build();
        while (calls < CALLS) {
            if (random.nextInt(100) < 4) {
                feedSlope();
            } else {
                one(random.nextInt(40));
            }
        }
    }

    private void build() {
        for (int i = 0; i < mostGates; i++) {
            due("gate", new int[] {random.nextInt(7), random.nextInt(10), random.nextInt(10)});
        }
        int skiers = random.nextInt(6);
        for (int i = 0; i < skiers; i++) {
            due("skier", new int[] {random.nextInt(10)});
        }
        if (random.nextInt(4) > 0) {
            feedSlope();
        }
    }

    private void readSlopes() {
        for (int i = 0; i < 5; i++) {
            feedSlope();
        }
    }

    private void feedSlope() {
        String text = slopeText();
        for (int i = 0; i < text.length() && calls < CALLS; i++) {
            due("feed", new int[] {text.charAt(i)});
        }
        due("slope", new int[0]);
    }

    // ---- texts

    private String slopeText() {
        StringBuilder text = new StringBuilder();
        int clauses = random.nextInt(10) == 0 ? 8 + random.nextInt(5) : random.nextInt(5);
        for (int i = 0; i < clauses; i++) {
            text.append(i == 0 ? "" : ";").append(clause(clauses > 5));
        }
        while (random.nextInt(10) < 3) {
            spoil(text);
        }
        return text.substring(0, Math.min(text.length(), 101));
    }

    private void spoil(StringBuilder text) {
        int at = text.length() == 0 ? 0 : random.nextInt(text.length());
        char sign = SPOILING.charAt(random.nextInt(SPOILING.length()));
        int how = random.nextInt(4);
        if (how == 0) {
            text.setLength(at);
        } else if (how == 1) {
            text.insert(at, sign);
        } else if (how == 2 && text.length() > 0) {
            text.deleteCharAt(at);
        } else if (text.length() > 0) {
            text.setCharAt(at, sign);
        }
    }

    private String clause(boolean brief) {
        if (brief || random.nextInt(4) == 0) {
            return (random.nextBoolean() ? "rut " : "fog ") + number();
        }
        return (random.nextBoolean() ? "wax " : "ice ") + number() + " " + any(random.nextInt(3));
    }

    private String number() {
        return String.valueOf(random.nextInt(5) == 0 ? random.nextInt(100) : random.nextInt(11));
    }

    private String any(int depth) {
        return random.nextInt(3) == 0 ? every(depth) + "|" + any(depth) : every(depth);
    }

    private String every(int depth) {
        return random.nextInt(3) == 0 ? part(depth) + "&" + every(depth) : part(depth);
    }

    private String part(int depth) {
        int how = random.nextInt(4);
        if (how == 0 && depth < 6) {
            return "!" + part(depth + 1);
        }
        if (how == 1 && depth < 6) {
            return "(" + (random.nextInt(3) == 0 ? part(depth + 1) : any(depth + 1)) + ")";
        }
        return "" + "gktprs".charAt(random.nextInt(6)) + "<=>".charAt(random.nextInt(3)) + number();
    }

    // ---- calls

    private int gate() {
        return random.nextInt(12) == 0 ? wild() : random.nextInt(Math.max(1, plain.now.gates.size()));
    }

    private int skier() {
        return random.nextInt(12) == 0 ? wild() : random.nextInt(Math.max(1, plain.now.skills.size()));
    }

    private int wild() {
        int[] some = {-1, -2, 5, 6, 7, 8, 10, 100, 1000, 10000, Integer.MAX_VALUE, Integer.MIN_VALUE};
        return some[random.nextInt(some.length)];
    }

    private int upTo(int most) {
        int how = random.nextInt(25);
        return how == 0 ? -1 : how == 1 ? most + 1 : how == 2 ? wild() : random.nextInt(most + 1);
    }

    /** A time that may well be that of some line. */
    private int time() {
        int size = plain.now.gates.size();
        if (random.nextInt(6) == 0 || plain.now.skills.isEmpty()) {
            return upTo(random.nextBoolean() ? 999 : 9999);
        }
        int least = plain.quickest(random.nextInt(plain.now.skills.size()), -1);
        return random.nextInt(3) == 0 ? least : least + random.nextInt(8 * size + 1) - 2;
    }

    private void one(int call) {
        switch (call) {
            case 0: due("feed", new int[] {random.nextInt(4) == 0 ? upTo(127) : "ice 1 g=1;".charAt(random.nextInt(10))}); break;
            case 1: if (random.nextInt(6) == 0) { due("slope", new int[0]); } break;
            case 2:
                if (plain.now.gates.size() < mostGates || random.nextInt(3) == 0 && mostGates == 7) {
                    due("gate", new int[] {upTo(6), upTo(9), upTo(9)});
                }
                break;
            case 3: due("of", new int[] {gate(), upTo(3)}); break;
            case 4: due("turn", new int[] {gate(), upTo(9)}); break;
            case 5: due("plan", new int[] {gate(), upTo(2)}); break;
            case 6: due("row", new int[] {gate(), upTo(3), upTo(9)}); break;
            case 7: if (random.nextInt(3) == 0) { due("skier", new int[] {upTo(9)}); } break;
            case 8: due("skill", new int[] {skier(), upTo(9)}); break;
            case 9: due("told", new int[] {upTo(2)}); break;
            case 10: due("run", new int[] {skier()}); break;
            case 11: due("would", new int[] {skier(), upTo(27)}); break;
            case 12: due("quickest", new int[] {skier(), upTo(6)}); break;
            case 13: due("clean", new int[] {skier(), upTo(6)}); break;
            case 14: due("up", new int[] {skier(), upTo(1)}); break;
            case 15: due("surest", new int[] {skier(), time(), upTo(1)}); break;
            case 16: due("sure", new int[] {skier(), time(), upTo(6)}); break;
            case 17: due("carry", new int[] {skier(), gate()}); break;
            case 18: due("start", new int[] {skier(), upTo(99)}); break;
            case 19: if (mostGates < 6) { due("rutted", new int[] {skier()}); } break;
            case 20: due("wax", new int[] {skier()}); break;
            case 21: due("loses", new int[] {skier(), skier(), upTo(1)}); break;
            case 22: due("wins", new int[] {skier(), skier(), upTo(1), upTo(1)}); break;
            case 23: due("risk", new int[] {skier(), skier(), random.nextInt(5) == 0 ? upTo(99) : -random.nextInt(99), upTo(1)}); break;
            case 24: due("set", new int[] {skier(), skier()}); break;
            case 25: due("rank", new int[] {skier()}); break;
            case 26: due("mean", new int[] {upTo(1)}); break;
            case 27: due("slowest", new int[] {skier()}); break;
            case 28: see(); break;
            case 29: due("fits", new int[] {skier(), upTo(6)}); break;
            case 30: due("who", new int[0]); break;
            case 31: book(); break;
            case 32: due("looked", new int[0]); break;
            case 33: act(); break;
            case 34: due("trace", new int[] {upTo(7)}); break;
            case 35: due("as", new int[] {gate(), upTo(6)}); break;
            case 36: if (random.nextInt(4) == 0) { due("image", new int[0]); } break;
            case 37: if (random.nextInt(4) == 0) { due("undo", new int[0]); } break;
            case 38: due("count", new int[] {upTo(6)}); break;
            default: due("fits", new int[] {skier(), -1}); break;
        }
    }

    private void see() {
        int gate = random.nextInt(4) == 0 ? -1 : gate();
        if (plain.now.skills.isEmpty() || gate < 0 || gate >= plain.now.gates.size() || random.nextInt(5) == 0) {
            due("see", new int[] {gate, upTo(9999)});
            return;
        }
        int took = 0;
        int skier = random.nextInt(plain.now.skills.size());
        for (int i = 0; i <= gate; i++) {
            took += plain.would(skier, 10 + i);
        }
        due("see", new int[] {gate, took});
    }

    private void book() {
        int skier = random.nextInt(6) == 0 ? -1 : skier();
        if (skier < 0 || skier >= plain.now.skills.size() || random.nextInt(5) == 0) {
            due("book", new int[] {skier, upTo(9999)});
        } else {
            due("book", new int[] {skier, plain.quickest(skier, -1)});
        }
    }

    private void act() {
        due("act", new int[] {gate(), upTo(2), random.nextInt(3) == 0 ? random.nextInt() : upTo(100)});
        due("count", new int[] {6});
        for (int i = 0; i < 8; i++) {
            due("trace", new int[] {i});
        }
    }

    private void due(String call, int[] with) {
        calls++;
        StringBuilder told = new StringBuilder(call).append("(");
        for (int i = 0; i < with.length; i++) {
            told.append(i == 0 ? "" : ", ").append(with[i]);
        }
        String what = told.append(") of ").append(name).append(" as call ").append(calls).toString();
        CHECK.due(what, answer(call, with), plainAnswer(call, with));
        if ("slope gate turn plan row skier skill run undo".contains(call)) {
            plain.forget();
        }
    }

    private long answer(String call, int[] a) {
        FortyGates x = program;
        switch (call) {
            case "feed": return x.feed(a[0]);
            case "slope": return x.slope();
            case "gate": return x.gate(a[0], a[1], a[2]);
            case "of": return x.of(a[0], a[1]);
            case "turn": return x.turn(a[0], a[1]);
            case "plan": return x.plan(a[0], a[1]);
            case "row": return x.row(a[0], a[1], a[2]);
            case "skier": return x.skier(a[0]);
            case "skill": return x.skill(a[0], a[1]);
            case "told": return x.told(a[0]);
            case "run": return x.run(a[0]);
            case "would": return x.would(a[0], a[1]);
            case "quickest": return x.quickest(a[0], a[1]);
            case "clean": return x.clean(a[0], a[1]);
            case "up": return x.up(a[0], a[1]);
            case "surest": return x.surest(a[0], a[1], a[2]);
            case "sure": return x.sure(a[0], a[1], a[2]);
            case "carry": return x.carry(a[0], a[1]);
            case "start": return x.start(a[0], a[1]);
            case "rutted": return x.rutted(a[0]);
            case "wax": return x.wax(a[0]);
            case "loses": return x.loses(a[0], a[1], a[2]);
            case "wins": return x.wins(a[0], a[1], a[2], a[3]);
            case "risk": return x.risk(a[0], a[1], a[2], a[3]);
            case "set": return x.set(a[0], a[1]);
            case "rank": return x.rank(a[0]);
            case "mean": return x.mean(a[0]);
            case "slowest": return x.slowest(a[0]);
            case "see": return x.see(a[0], a[1]);
            case "fits": return x.fits(a[0], a[1]);
            case "who": return x.who();
            case "book": return x.book(a[0], a[1]);
            case "looked": return x.looked();
            case "act": return x.act(a[0], a[1], a[2]);
            case "trace": return x.trace(a[0]);
            case "as": return x.as(a[0], a[1]);
            case "image": return x.image();
            case "undo": return x.undo();
            default: return x.count(a[0]);
        }
    }

    private long plainAnswer(String call, int[] a) {
        PlainHill x = plain;
        switch (call) {
            case "feed": return x.feed(a[0]);
            case "slope": return x.slope();
            case "gate": return x.gate(a[0], a[1], a[2]);
            case "of": return x.of(a[0], a[1]);
            case "turn": return x.turn(a[0], a[1]);
            case "plan": return x.plan(a[0], a[1]);
            case "row": return x.row(a[0], a[1], a[2]);
            case "skier": return x.skier(a[0]);
            case "skill": return x.skill(a[0], a[1]);
            case "told": return x.told(a[0]);
            case "run": return x.run(a[0]);
            case "would": return x.would(a[0], a[1]);
            case "quickest": return x.quickest(a[0], a[1]);
            case "clean": return x.clean(a[0], a[1]);
            case "up": return x.up(a[0], a[1]);
            case "surest": return x.surest(a[0], a[1], a[2]);
            case "sure": return x.sure(a[0], a[1], a[2]);
            case "carry": return x.carry(a[0], a[1]);
            case "start": return x.start(a[0], a[1]);
            case "rutted": return x.rutted(a[0]);
            case "wax": return x.wax(a[0]);
            case "loses": return x.loses(a[0], a[1], a[2]);
            case "wins": return x.wins(a[0], a[1], a[2], a[3]);
            case "risk": return x.risk(a[0], a[1], a[2], a[3]);
            case "set": return x.set(a[0], a[1]);
            case "rank": return x.rank(a[0]);
            case "mean": return x.mean(a[0]);
            case "slowest": return x.slowest(a[0]);
            case "see": return x.see(a[0], a[1]);
            case "fits": return x.fits(a[0], a[1]);
            case "who": return x.who();
            case "book": return x.book(a[0], a[1]);
            case "looked": return x.looked();
            case "act": return x.act(a[0], a[1], a[2]);
            case "trace": return x.trace(a[0]);
            case "as": return x.as(a[0], a[1]);
            case "image": return x.image();
            case "undo": return x.undo();
            default: return x.count(a[0]);
        }
    }
}
