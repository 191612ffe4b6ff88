/**
 * Forty gates: a slope of gates, the skiers who run it, and what can be asked of both.
 * Every row that a call needs is made in the constructor and used again, so no call makes an object.
 */
public final class FortyGates {
    public static final int NONE = -1, BAD = -2, STATE = -3, FULL = -4;
    public static final long NO = Long.MIN_VALUE;

    private static final int ABSENT = -5, OTHER_KIND = -6, FAULTY = -10, NO_CARRY = -10001;

    private static final int MAX_GATES = 7, MAX_SKIERS = 5, MAX_SLOPES = 5, MAX_SIGNS = 100;
    private static final int MAX_CLAUSES = 10, MAX_OPEN = 5, MAX_SEEN = 7, MAX_BOOK = 8;
    private static final int MAX_RUNS = 9999, MAX_NOTED = 9999, MAX_LIMIT = 999, MAX_KEPT = 20;

    private static final int OPEN = 1, TIGHT = 2, STEEP = 3, FLAT = 4, BLIND = 5, TOLD = 6, KINDS = 7;
    /** The kind above each kind; none is above GATE. */
    private static final int[] ABOVE = {-1, 0, 0, 0, 1, 2, 3};

    private static final int LINES = 3, PACES = 10, FIRST_PACE = 3, CARRIED_PACE = 6, ROW = 4;
    private static final int CHANCES = 20;
    /** Of how many chances one stays up through so many gates: powers of 20. */
    private static final long[] OF_CHANCES = {1L, 20L, 400L, 8000L, 160000L, 3200000L, 64000000L, 1280000000L};

    private final Hill hill = new Hill();
    private final Hill kept = new Hill();
    private boolean imaged;
    private final Reader reader = new Reader();
    private final Passage first = new Passage();
    private final Passage second = new Passage();
    private final Safest safest = new Safest();
    private final Matches matches = new Matches();
    private final Acts acts = new Acts();
    private final int[] leastOf = new int[MAX_SKIERS];

    public FortyGates() {
    }

    // ---- slopes, gates, skiers

    public int feed(int sign) {
        if (outside(sign, 0, 127)) {
            return BAD;
        }
        if (hill.tape.size >= MAX_SIGNS) {
            return FULL;
        }
        hill.tape.signs[hill.tape.size++] = sign;
        return hill.tape.size;
    }

    public int slope() {
        if (hill.slopes >= MAX_SLOPES) {
            return FULL;
        }
        boolean good = reader.readTape(hill.tape);
        hill.tape.size = 0;
        if (!good) {
            return FAULTY - reader.place;
        }
        hill.clauses.copyFrom(reader.made);
        return hill.slopes++;
    }

    public int gate(int kind, int v, int turn) {
        if (outside(kind, 0, KINDS - 1)) {
            return NONE;
        }
        if (outside(v, 0, 9) || outside(turn, 0, 9)) {
            return BAD;
        }
        return hill.gates.size >= MAX_GATES ? FULL : hill.gates.append(kind, v, turn);
    }

    public int of(int gate, int what) {
        if (noGate(gate)) {
            return NONE;
        }
        switch (what) {
            case 0: return hill.gates.kind[gate];
            case 1: return hill.gates.v[gate];
            case 2: return hill.gates.turn[gate];
            case 3: return hill.gates.line[gate];
            default: return NONE;
        }
    }

    public int turn(int gate, int n) {
        if (noGate(gate)) {
            return NONE;
        }
        return outside(n, 0, 9) ? BAD : exchange(hill.gates.turn, gate, n);
    }

    public int plan(int gate, int c) {
        if (noGate(gate)) {
            return NONE;
        }
        return outside(c, 0, LINES - 1) ? BAD : exchange(hill.gates.line, gate, c);
    }

    public int row(int gate, int k, int n) {
        if (noGate(gate) || outside(k, 0, ROW - 1)) {
            return NONE;
        }
        if (outside(n, 0, 9)) {
            return BAD;
        }
        return hill.gates.kind[gate] != TOLD ? STATE : exchange(hill.gates.rows, gate * ROW + k, n);
    }

    public int skier(int skill) {
        if (outside(skill, 0, 9)) {
            return BAD;
        }
        if (hill.skiers >= MAX_SKIERS) {
            return FULL;
        }
        hill.skill[hill.skiers] = skill;
        return hill.skiers++;
    }

    public int skill(int skier, int n) {
        if (noSkier(skier)) {
            return NONE;
        }
        if (outside(n, -1, 9)) {
            return BAD;
        }
        return n == -1 ? hill.skill[skier] : exchange(hill.skill, skier, n);
    }

    public int told(int what) {
        switch (what) {
            case 0: return hill.runs;
            case 1: return hill.clauses.rut;
            case 2: return hill.clauses.fog;
            default: return NONE;
        }
    }

    // ---- runs

    public int run(int skier) {
        if (noSkier(skier)) {
            return NONE;
        }
        if (hill.runs >= MAX_RUNS) {
            return STATE;
        }
        goByTheLine(skier);
        hill.runs++;
        return first.total;
    }

    public int would(int skier, int what) {
        if (noSkier(skier)) {
            return NONE;
        }
        goByTheLine(skier);
        switch (what) {
            case 0: return first.total;
            case 1: return first.paceBehind;
            case 2: return first.slides ? 1 : 0;
            default: break;
        }
        if (what < 10) {
            return NONE;
        }
        if (what < 20) {
            return noGate(what - 10) ? NONE : first.took[what - 10];
        }
        return noGate(what - 20) ? NONE : first.overThere[what - 20];
    }

    public int quickest(int skier, int k) {
        return bestLine(skier, k, false);
    }

    public int clean(int skier, int k) {
        return bestLine(skier, k, true);
    }

    public long up(int skier, int part) {
        if (noSkier(skier) || noPart(part)) {
            return NO;
        }
        goByTheLine(skier);
        return lowest(first.chances, OF_CHANCES[first.size], part);
    }

    public long surest(int skier, int time, int part) {
        if (noSkier(skier) || outside(time, 0, MAX_LIMIT) || noPart(part)) {
            return NO;
        }
        return surestWithin(skier, time, part);
    }

    public int sure(int skier, int time, int k) {
        if (noSkier(skier) || outside(k, 0, MAX_GATES - 1)) {
            return NONE;
        }
        if (outside(time, 0, MAX_LIMIT)) {
            return BAD;
        }
        leastTime(first, skier);
        safest.search(first, time);
        return safest.best < 0 || k >= first.size ? ABSENT : safest.bestRow[k];
    }

    // ---- what things are worth

    public int carry(int skier, int gate) {
        if (noSkier(skier) || noGate(gate)) {
            return NO_CARRY;
        }
        leastTime(first, skier);
        return first.leastFrom(gate, FIRST_PACE) - first.leastFrom(gate, CARRIED_PACE);
    }

    public int start(int skier, int n) {
        if (noSkier(skier)) {
            return NONE;
        }
        if (outside(n, 0, 99)) {
            return BAD;
        }
        first.prepare(hill, skier, n, true);
        return first.solve(false);
    }

    public int rutted(int skier) {
        if (noSkier(skier)) {
            return NONE;
        }
        first.prepare(hill, skier, 0, true);
        first.solve(false);
        first.goByBest();
        for (int n = 1; n <= 99; n++) {
            second.prepare(hill, skier, n, true);
            second.solve(false);
            second.goByBest();
            if (!second.hasRowOf(first)) {
                return n;
            }
        }
        return ABSENT;
    }

    public int wax(int skier) {
        if (noSkier(skier)) {
            return NONE;
        }
        second.prepare(hill, skier, hill.runs, false);
        return second.solve(false) - leastTime(first, skier);
    }

    // ---- two skiers

    public int loses(int one, int other, int what) {
        if (noSkier(one) || noSkier(other) || outside(what, 0, 1)) {
            return NONE;
        }
        if (one == other) {
            return BAD;
        }
        goBothByBest(one, other);
        int most = 0;
        int where = -1;
        for (int gate = 0; gate < first.size; gate++) {
            int more = first.took[gate] - second.took[gate];
            if (more > most) {
                most = more;
                where = gate;
            }
        }
        if (where < 0) {
            return ABSENT;
        }
        return what == 0 ? where : most;
    }

    public long wins(int one, int other, int what, int part) {
        if (noSkier(one) || noSkier(other) || one == other || outside(what, 0, 1) || noPart(part)) {
            return NO;
        }
        goBothByBest(one, other);
        long all = OF_CHANCES[first.size];
        long up = first.chances;
        long otherUp = second.chances;
        long above;
        if (what == 0) {
            above = up * (second.total > first.total ? all : all - otherUp);
        } else {
            above = (all - up) * (all - otherUp) + (first.total == second.total ? up * otherUp : 0L);
        }
        return lowest(above, all * all, part);
    }

    public long risk(int one, int other, int d, int part) {
        if (noSkier(one) || noSkier(other) || one == other || outside(d, -99, 99) || noPart(part)) {
            return NO;
        }
        int due = leastTime(second, other) - d;
        return surestWithin(one, due, part);
    }

    public int set(int one, int other) {
        if (noSkier(one) || noSkier(other)) {
            return NONE;
        }
        if (one == other) {
            return BAD;
        }
        int least = leastTime(first, one) - leastTime(second, other);
        int pair = ABSENT;
        for (int a = 0; a < hill.gates.size; a++) {
            for (int b = a + 1; b < hill.gates.size; b++) {
                int ahead = aheadIfChanged(a, b);
                if (ahead < least) {
                    least = ahead;
                    pair = 10 * a + b;
                }
            }
        }
        return pair;
    }

    // ---- ranks, seen, books

    public int rank(int k) {
        if (noSkier(k)) {
            return NONE;
        }
        for (int skier = 0; skier < hill.skiers; skier++) {
            leastOf[skier] = leastTime(first, skier);
        }
        for (int skier = 0; skier < hill.skiers; skier++) {
            if (placeOf(skier) == k) {
                return skier;
            }
        }
        return NONE;
    }

    public long mean(int part) {
        if (noPart(part) || hill.skiers == 0) {
            return NO;
        }
        long together = 0;
        for (int skier = 0; skier < hill.skiers; skier++) {
            together += leastTime(first, skier);
        }
        return lowest(together, hill.skiers, part);
    }

    public int slowest(int skier) {
        if (noSkier(skier)) {
            return NONE;
        }
        goByTheLine(skier);
        int where = ABSENT;
        int most = -1;
        for (int gate = 0; gate < first.size; gate++) {
            if (first.took[gate] > most) {
                most = first.took[gate];
                where = gate;
            }
        }
        return where;
    }

    public int see(int gate, int time) {
        if (gate == -1) {
            return hill.seen.clear();
        }
        return noGate(gate) ? NONE : note(hill.seen, gate, time);
    }

    public int fits(int skier, int k) {
        if (noSkier(skier) || outside(k, -1, MAX_GATES - 1)) {
            return NONE;
        }
        int many = linesThatFit(skier);
        if (k == -1) {
            return many;
        }
        return many == 0 || k >= first.size ? ABSENT : matches.firstRow[k];
    }

    public int who() {
        int bits = 0;
        for (int skier = 0; skier < hill.skiers; skier++) {
            if (linesThatFit(skier) > 0) {
                bits |= 1 << skier;
            }
        }
        return bits;
    }

    public int book(int skier, int time) {
        if (skier == -1) {
            return hill.book.clear();
        }
        return noSkier(skier) ? NONE : note(hill.book, skier, time);
    }

    public int looked() {
        for (int i = 0; i < hill.book.size; i++) {
            if (leastTime(first, hill.book.key[i]) != hill.book.time[i]) {
                return i;
            }
        }
        return ABSENT;
    }

    // ---- acts, the image

    public int act(int gate, int act, int x) {
        if (noGate(gate) || outside(act, 0, 2)) {
            acts.ran = 0;
            return 0;
        }
        return acts.begin(hill.gates, gate, act, x);
    }

    public int trace(int i) {
        return outside(i, 0, Math.min(acts.ran, MAX_KEPT) - 1) ? NONE : acts.bodies[i];
    }

    public int as(int gate, int k) {
        if (noGate(gate) || outside(k, 0, KINDS - 1)) {
            return NONE;
        }
        int kind = hill.gates.kind[gate];
        for (int i = 0; i < KINDS && kind >= 0; i++) {
            if (kind == k) {
                return hill.gates.v[gate];
            }
            kind = ABOVE[kind];
        }
        return OTHER_KIND;
    }

    public int image() {
        kept.copyFrom(hill);
        imaged = true;
        return hill.gates.size;
    }

    public int undo() {
        if (!imaged) {
            return STATE;
        }
        hill.copyFrom(kept);
        return hill.gates.size;
    }

    public int count(int what) {
        switch (what) {
            case 0: return hill.gates.size;
            case 1: return hill.skiers;
            case 2: return hill.slopes;
            case 3: return hill.seen.size;
            case 4: return hill.book.size;
            case 5: return hill.tape.size;
            case 6: return acts.ran;
            default: return NONE;
        }
    }

    // ---- what several calls share

    private boolean noGate(int gate) {
        return gate < 0 || gate >= hill.gates.size;
    }

    private boolean noSkier(int skier) {
        return skier < 0 || skier >= hill.skiers;
    }

    private static boolean noPart(int part) {
        return outside(part, 0, 1);
    }

    private static boolean outside(int n, int low, int high) {
        return n < low || n > high;
    }

    private static int exchange(int[] numbers, int at, int n) {
        if (at < 0 || at >= numbers.length) {
            return NONE;
        }
        int was = numbers[at];
        numbers[at] = n;
        return was;
    }

    private static int note(Notes notes, int key, int time) {
        if (outside(time, 0, MAX_NOTED)) {
            return BAD;
        }
        return notes.append(key, time) ? notes.size : FULL;
    }

    private void goByTheLine(int skier) {
        first.prepare(hill, skier, hill.runs, true);
        first.go(hill.gates.line);
    }

    private int leastTime(Passage passage, int skier) {
        passage.prepare(hill, skier, hill.runs, true);
        return passage.solve(false);
    }

    private void goBothByBest(int one, int other) {
        leastTime(first, one);
        first.goByBest();
        leastTime(second, other);
        second.goByBest();
    }

    private int bestLine(int skier, int k, boolean neverSliding) {
        if (noSkier(skier) || outside(k, -1, MAX_GATES - 1)) {
            return NONE;
        }
        first.prepare(hill, skier, hill.runs, true);
        int least = first.solve(neverSliding);
        if (least >= Passage.NEVER) {
            return ABSENT;
        }
        if (k == -1) {
            return least;
        }
        first.goByBest();
        return k >= first.size ? ABSENT : first.best[k];
    }

    private long surestWithin(int skier, int time, int part) {
        leastTime(first, skier);
        safest.search(first, time);
        return lowest(Math.max(safest.best, 0L), OF_CHANCES[first.size], part);
    }

    /** By how much the first one's least time is above the second one's, if two gates change places. */
    private int aheadIfChanged(int a, int b) {
        first.changePlaces(a, b);
        second.changePlaces(a, b);
        int ahead = first.solve(false) - second.solve(false);
        first.changePlaces(a, b);
        second.changePlaces(a, b);
        return ahead;
    }

    private int linesThatFit(int skier) {
        first.prepare(hill, skier, hill.runs, true);
        return matches.search(first, hill.seen);
    }

    private int placeOf(int skier) {
        int place = 0;
        for (int i = 0; i < hill.skiers; i++) {
            if (leastOf[i] < leastOf[skier] || leastOf[i] == leastOf[skier] && i < skier) {
                place++;
            }
        }
        return place;
    }

    /** A part of a fraction in lowest terms; what is above is 0 at least, what is below 1 at least. */
    private static long lowest(long above, long below, int part) {
        long a = below;
        long b = above;
        // two remainders at least halve a number, so 200 steps are more than a long can need
        for (int i = 0; i < 200 && b != 0; i++) {
            long rest = a % b;
            a = b;
            b = rest;
        }
        if (a == 0) {
            return NO;
        }
        return part == 0 ? above / a : below / a;
    }

    /** All that an image holds. */
    private static final class Hill {
        final Gates gates = new Gates();
        final int[] skill = new int[MAX_SKIERS];
        int skiers;
        int runs;
        final Tape tape = new Tape();
        final Clauses clauses = new Clauses();
        int slopes;
        final Notes seen = new Notes(MAX_SEEN);
        final Notes book = new Notes(MAX_BOOK);

        void copyFrom(Hill other) {
            gates.copyFrom(other.gates);
            System.arraycopy(other.skill, 0, skill, 0, MAX_SKIERS);
            skiers = other.skiers;
            runs = other.runs;
            tape.copyFrom(other.tape);
            clauses.copyFrom(other.clauses);
            slopes = other.slopes;
            seen.copyFrom(other.seen);
            book.copyFrom(other.book);
        }
    }

    private static final class Gates {
        int size;
        final int[] kind = new int[MAX_GATES];
        final int[] v = new int[MAX_GATES];
        final int[] turn = new int[MAX_GATES];
        final int[] line = new int[MAX_GATES];
        final int[] rows = new int[MAX_GATES * ROW];

        int append(int itsKind, int itsV, int itsTurn) {
            kind[size] = itsKind;
            v[size] = itsV;
            turn[size] = itsTurn;
            line[size] = 1;
            // its row is 0: no row changes ahead of its gate, and an undo brings all rows back
            return size++;
        }

        void copyFrom(Gates other) {
            size = other.size;
            System.arraycopy(other.kind, 0, kind, 0, MAX_GATES);
            System.arraycopy(other.v, 0, v, 0, MAX_GATES);
            System.arraycopy(other.turn, 0, turn, 0, MAX_GATES);
            System.arraycopy(other.line, 0, line, 0, MAX_GATES);
            System.arraycopy(other.rows, 0, rows, 0, MAX_GATES * ROW);
        }
    }

    /** Rows told by hand: a gate or a skier, and a time. */
    private static final class Notes {
        int size;
        final int[] key;
        final int[] time;

        Notes(int room) {
            key = new int[room];
            time = new int[room];
        }

        boolean append(int itsKey, int itsTime) {
            if (size >= key.length) {
                return false;
            }
            key[size] = itsKey;
            time[size] = itsTime;
            size++;
            return true;
        }

        int clear() {
            size = 0;
            return size;
        }

        void copyFrom(Notes other) {
            int room = Math.min(key.length, other.key.length);
            size = Math.min(other.size, room);
            System.arraycopy(other.key, 0, key, 0, room);
            System.arraycopy(other.time, 0, time, 0, room);
        }
    }

    private static final class Tape {
        int size;
        final int[] signs = new int[MAX_SIGNS];

        void copyFrom(Tape other) {
            size = other.size;
            System.arraycopy(other.signs, 0, signs, 0, MAX_SIGNS);
        }
    }

    /** What a slope says. The conditions stand one behind the other, each part ahead of its sign. */
    private static final class Clauses {
        static final int AND = 0, OR = 1, NOT = 2, TEST = 3;
        /** A test is one code: behind its letter (g, k, t, p, r, s) the digits by which it holds, as bits. */
        static final int DIGITS = 10, ALL_DIGITS = (1 << DIGITS) - 1, PACE_LETTER = 3;

        int rut;
        int fog;
        int size;
        int codes;
        final boolean[] isWax = new boolean[MAX_CLAUSES];
        final int[] amount = new int[MAX_CLAUSES];
        final int[] end = new int[MAX_CLAUSES];
        final int[] code = new int[MAX_SIGNS];
        /** Two operands wait at each of six levels at most, and one is on top. */
        final int[] stack = new int[16];

        void clear() {
            rut = 0;
            fog = 0;
            size = 0;
            codes = 0;
        }

        void copyFrom(Clauses other) {
            rut = other.rut;
            fog = other.fog;
            size = other.size;
            codes = other.codes;
            System.arraycopy(other.isWax, 0, isWax, 0, MAX_CLAUSES);
            System.arraycopy(other.amount, 0, amount, 0, MAX_CLAUSES);
            System.arraycopy(other.end, 0, end, 0, MAX_CLAUSES);
            System.arraycopy(other.code, 0, code, 0, MAX_SIGNS);
        }

        void write(int itsCode) {
            if (codes < MAX_SIGNS) {
                code[codes++] = itsCode;
            }
        }

        void append(boolean itIsWax, int itsAmount) {
            if (size < MAX_CLAUSES) {
                isWax[size] = itIsWax;
                amount[size] = itsAmount;
                end[size] = codes;
                size++;
            }
        }

        /**
         * By which paces a clause's condition holds, as bits: of all that a test asks only the pace
         * differs from run to run at one gate, so a gate's ten paces are looked at together.
         */
        int pacesOf(int clause, int[] facts) {
            int top = 0;
            for (int i = clause == 0 ? 0 : end[clause - 1]; i < end[clause]; i++) {
                if (code[i] >= TEST) {
                    if (top < stack.length) {
                        stack[top++] = pacesOfTest(code[i] - TEST, facts);
                    }
                } else if (code[i] == NOT) {
                    if (top >= 1) {
                        stack[top - 1] ^= ALL_DIGITS;
                    }
                } else if (top >= 2) {
                    top--;
                    stack[top - 1] = code[i] == AND ? stack[top - 1] & stack[top] : stack[top - 1] | stack[top];
                }
            }
            return top == 0 ? 0 : stack[top - 1];
        }

        private static int pacesOfTest(int test, int[] facts) {
            int letter = test >> DIGITS;
            if (letter == PACE_LETTER) {
                return test & ALL_DIGITS;
            }
            return letter < facts.length && (test >> facts[letter] & 1) == 1 ? ALL_DIGITS : 0;
        }
    }

    /** Reads a tape. A step that fails leaves the place at the sign by which it failed: the fault. */
    private static final class Reader {
        private static final String DIGIT = "0123456789";

        final Clauses made = new Clauses();
        int place;
        private int size;
        private int[] signs = new int[0];

        boolean readTape(Tape tape) {
            size = Math.min(tape.size, tape.signs.length);
            signs = tape.signs;
            place = 0;
            made.clear();
            for (int i = 0; i < MAX_CLAUSES; i++) {
                if (!readClause()) {
                    return false;
                }
                if (place >= size) {
                    return true;
                }
                // behind the last clause that there may be, a ; is a fault itself
                if (i == MAX_CLAUSES - 1 || !take(';')) {
                    return false;
                }
            }
            return false;
        }

        private boolean readClause() {
            boolean isWax = sees('w');
            if (!isWax && !sees('i')) {
                return readSetting();
            }
            if (!takeWord(isWax ? "wax " : "ice ")) {
                return false;
            }
            int n = readNumber();
            if (n < 0 || !take(' ') || !readAny(0)) {
                return false;
            }
            made.append(isWax, n);
            return true;
        }

        private boolean readSetting() {
            boolean isRut = sees('r');
            if (!takeWord(isRut ? "rut " : "fog ")) {
                return false;
            }
            int n = readNumber();
            if (isRut) {
                made.rut = n;
            } else {
                made.fog = n;
            }
            return n >= 0;
        }

        /** E, with the T of which it is made; so many of ! and ( are open around it. */
        private boolean readAny(int open) {
            boolean both = false;
            boolean either = false;
            for (int i = 0; i < MAX_SIGNS; i++) {
                if (!readPart(open)) {
                    return false;
                }
                if (both) {
                    made.write(Clauses.AND);
                }
                both = take('&');
                if (both) {
                    continue;
                }
                // here a T ends, so what stood ahead of it joins it only now
                if (either) {
                    made.write(Clauses.OR);
                }
                either = take('|');
                if (!either) {
                    return true;
                }
            }
            return false;
        }

        /** F. The sign that would be open as the sixth is not taken, as it is the fault. */
        private boolean readPart(int open) {
            if (sees('!')) {
                return open < MAX_OPEN && readNot(open + 1);
            }
            if (sees('(')) {
                return open < MAX_OPEN && take('(') && readAny(open + 1) && take(')');
            }
            return readTest();
        }

        private boolean readNot(int open) {
            if (!take('!') || !readPart(open)) {
                return false;
            }
            made.write(Clauses.NOT);
            return true;
        }

        private boolean readTest() {
            int letter = takeOneOf("gktprs");
            if (letter < 0) {
                return false;
            }
            int sign = takeOneOf("<=>");
            if (sign < 0) {
                return false;
            }
            int number = readNumber();
            if (number < 0) {
                return false;
            }
            made.write(Clauses.TEST + (letter << Clauses.DIGITS) + digitsBy(sign, number));
            return true;
        }

        /** All that a test asks for is a digit, so it is looked at for each of them now, once. */
        private static int digitsBy(int sign, int number) {
            int digits = 0;
            for (int digit = 0; digit < Clauses.DIGITS; digit++) {
                boolean holds = sign == 0 ? digit < number : sign == 1 ? digit == number : digit > number;
                if (holds) {
                    digits |= 1 << digit;
                }
            }
            return digits;
        }

        /** A number of one or two digits; -1: there is none. Behind a 0 no digit is taken. */
        private int readNumber() {
            int n = takeOneOf(DIGIT);
            if (n <= 0) {
                return n;
            }
            int next = takeOneOf(DIGIT);
            return next < 0 ? n : 10 * n + next;
        }

        private boolean sees(char sign) {
            return place < size && signs[place] == sign;
        }

        private boolean take(char sign) {
            if (!sees(sign)) {
                return false;
            }
            place++;
            return true;
        }

        private boolean takeWord(String word) {
            for (int i = 0; i < word.length(); i++) {
                if (!take(word.charAt(i))) {
                    return false;
                }
            }
            return true;
        }

        /** Which one of some signs was taken; -1: none. */
        private int takeOneOf(String some) {
            if (place >= size) {
                return -1;
            }
            int which = some.indexOf((char) signs[place]);
            if (which >= 0) {
                place++;
            }
            return which;
        }
    }

    /** How one skier passes every gate, by every pace and line; then the best line, or a run by one. */
    private static final class Passage {
        /** More than any time can be. */
        static final int NEVER = 100000000;

        int size;
        /** The gates as they are passed. */
        private final int[] order = new int[MAX_GATES];
        private final int[] over = new int[MAX_GATES * PACES * LINES];
        private final int[] takes = new int[MAX_GATES * PACES * LINES];
        private final int[] behind = new int[MAX_GATES * PACES * LINES];
        /** What tests ask of, in the order of their letters; the pace among them is never looked at. */
        private final int[] facts = new int[6];
        private final int[] ice = new int[PACES];
        private final int[] wax = new int[PACES];
        /** The least time from a place in the order on, by the pace as it comes there, and its line there. */
        private final int[] least = new int[(MAX_GATES + 1) * PACES];
        private final int[] choice = new int[MAX_GATES * PACES];
        final int[] best = new int[MAX_GATES];
        final int[] took = new int[MAX_GATES];
        final int[] overThere = new int[MAX_GATES];
        int total;
        int paceBehind;
        boolean slides;
        /** By how many of all chances one stays up. */
        long chances;

        void prepare(Hill hill, int skier, int runs, boolean waxed) {
            size = hill.gates.size;
            int skill = hill.skill[skier];
            for (int gate = 0; gate < size; gate++) {
                order[gate] = gate;
                facts[0] = gate;
                facts[1] = hill.gates.kind[gate];
                facts[2] = hill.gates.turn[gate];
                facts[4] = runs % 10;
                facts[5] = skill;
                sumClauses(hill.clauses, waxed);
                fillGate(gate, tightness(hill, gate, skill), skill, ruts(hill, gate, runs));
            }
        }

        private void sumClauses(Clauses clauses, boolean waxed) {
            for (int pace = 0; pace < PACES; pace++) {
                ice[pace] = 0;
                wax[pace] = 0;
            }
            for (int i = 0; i < clauses.size; i++) {
                if (!clauses.isWax[i]) {
                    addAt(ice, clauses.pacesOf(i, facts), clauses.amount[i]);
                } else if (waxed) {
                    addAt(wax, clauses.pacesOf(i, facts), clauses.amount[i]);
                }
            }
        }

        private static void addAt(int[] sums, int paces, int n) {
            for (int pace = 0; pace < sums.length; pace++) {
                if ((paces >> pace & 1) == 1) {
                    sums[pace] += n;
                }
            }
        }

        private static int tightness(Hill hill, int gate, int skill) {
            int turn = hill.gates.turn[gate];
            switch (hill.gates.kind[gate]) {
                case TIGHT: return turn + 2;
                case BLIND: return turn + 2 + (hill.clauses.fog > skill ? hill.gates.v[gate] : 0);
                default: return turn;
            }
        }

        /** What a gate takes more after so many runs. */
        private static int ruts(Hill hill, int gate, int runs) {
            int rut = hill.clauses.rut;
            int more = rut == 0 ? 0 : runs / rut;
            return hill.gates.kind[gate] == TOLD ? more + hill.gates.rows[gate * ROW + runs % ROW] : more;
        }

        private void fillGate(int gate, int tight, int skill, int ruts) {
            int kind = facts[1];
            int steeper = kind == STEEP || kind == TOLD ? 1 : 0;
            int gain = kind == OPEN || kind == FLAT ? 3 : 1;
            for (int pace = 0; pace < PACES; pace++) {
                int p = Math.min(pace + steeper, PACES - 1);
                int plain = kind == FLAT ? 90 - 8 * p : 60 - 4 * p;
                for (int c = 0; c < LINES; c++) {
                    int at = cell(gate, pace, c);
                    int out = held(p + tight + ice[pace] - 3 * c - skill - 4, CHANCES);
                    over[at] = out;
                    takes[at] = Math.max(1, plain + 5 * c + 3 * out + ruts - wax[pace]);
                    behind[at] = held(p + gain + (c == 2 ? 1 : 0) - tight / 3 - out, PACES - 1);
                }
            }
        }

        private static int cell(int gate, int pace, int c) {
            return (gate * PACES + pace) * LINES + c;
        }

        private static int held(int n, int most) {
            return Math.max(0, Math.min(most, n));
        }

        int timeAt(int gate, int pace, int c) {
            return takes[cell(gate, pace, c)];
        }

        int overAt(int gate, int pace, int c) {
            return over[cell(gate, pace, c)];
        }

        int paceAfter(int gate, int pace, int c) {
            return behind[cell(gate, pace, c)];
        }

        void changePlaces(int a, int b) {
            int was = order[a];
            order[a] = order[b];
            order[b] = was;
        }

        int leastFrom(int place, int pace) {
            return least[place * PACES + pace];
        }

        /** The least time of all lines (NEVER: there is none), from the last place back to the first. */
        int solve(boolean neverSliding) {
            for (int pace = 0; pace < PACES; pace++) {
                least[size * PACES + pace] = 0;
            }
            for (int place = size - 1; place >= 0; place--) {
                for (int pace = 0; pace < PACES; pace++) {
                    solveAt(place, pace, neverSliding);
                }
            }
            return leastFrom(0, FIRST_PACE);
        }

        private void solveAt(int place, int pace, boolean neverSliding) {
            int found = NEVER;
            int by = 0;
            for (int c = 0; c < LINES; c++) {
                int at = cell(order[place], pace, c);
                int time = takes[at] + leastFrom(place + 1, behind[at]);
                // of like times the lesser line stays, so the row is the first of several
                if (time < found && !(neverSliding && over[at] > 0)) {
                    found = time;
                    by = c;
                }
            }
            least[place * PACES + pace] = found;
            choice[place * PACES + pace] = by;
        }

        /** A run by the line that was solved; the gates stand in their own order. */
        void goByBest() {
            int pace = FIRST_PACE;
            for (int gate = 0; gate < size; gate++) {
                best[gate] = choice[gate * PACES + pace];
                pace = paceAfter(gate, pace, best[gate]);
            }
            go(best);
        }

        void go(int[] line) {
            total = 0;
            paceBehind = FIRST_PACE;
            slides = false;
            chances = 1;
            for (int gate = 0; gate < size; gate++) {
                int at = cell(gate, paceBehind, line[gate]);
                took[gate] = takes[at];
                overThere[gate] = over[at];
                total += takes[at];
                slides = slides || over[at] > 0;
                chances *= CHANCES - over[at];
                paceBehind = behind[at];
            }
        }

        boolean hasRowOf(Passage other) {
            for (int gate = 0; gate < size; gate++) {
                if (best[gate] != other.best[gate]) {
                    return false;
                }
            }
            return true;
        }
    }

    /** The line by which one stays up most likely within a time. */
    private static final class Safest {
        /** By how many of all chances; -1: no line is quick enough. */
        long best;
        final int[] bestRow = new int[MAX_GATES];
        private final int[] row = new int[MAX_GATES];
        private int limit;

        /** The passage must be solved: its least times tell where a search is in vain. */
        void search(Passage passage, int itsLimit) {
            limit = itsLimit;
            best = -1;
            reach(passage, 0, FIRST_PACE, 0, 1L);
        }

        private void reach(Passage passage, int gate, int pace, int time, long chances) {
            int left = passage.size - gate;
            if (left < 0 || time + passage.leastFrom(gate, pace) > limit || chances * OF_CHANCES[left] <= best) {
                return;
            }
            if (left > 0) {
                passBy(passage, gate, pace, time, chances);
                return;
            }
            best = chances;
            System.arraycopy(row, 0, bestRow, 0, MAX_GATES);
        }

        private void passBy(Passage passage, int gate, int pace, int time, long chances) {
            for (int c = 0; c < LINES; c++) {
                row[gate] = c;
                reach(passage, gate + 1, passage.paceAfter(gate, pace, c), time + passage.timeAt(gate, pace, c),
                        chances * (CHANCES - passage.overAt(gate, pace, c)));
            }
        }
    }

    /** The lines by which all that was seen is so. */
    private static final class Matches {
        private static final int ANY = -1, CANNOT = -2;

        final int[] firstRow = new int[MAX_GATES];
        private final int[] row = new int[MAX_GATES];
        private final int[] due = new int[MAX_GATES];
        private int found;

        int search(Passage passage, Notes seen) {
            found = 0;
            for (int gate = 0; gate < MAX_GATES; gate++) {
                due[gate] = ANY;
            }
            for (int i = 0; i < seen.size; i++) {
                int gate = seen.key[i];
                due[gate] = due[gate] == ANY || due[gate] == seen.time[i] ? seen.time[i] : CANNOT;
            }
            reach(passage, 0, FIRST_PACE, 0);
            return found;
        }

        private void reach(Passage passage, int gate, int pace, int time) {
            if (gate < passage.size) {
                passBy(passage, gate, pace, time);
                return;
            }
            if (found == 0) {
                System.arraycopy(row, 0, firstRow, 0, MAX_GATES);
            }
            found++;
        }

        private void passBy(Passage passage, int gate, int pace, int time) {
            for (int c = 0; c < LINES; c++) {
                int then = time + passage.timeAt(gate, pace, c);
                if (due[gate] == ANY || due[gate] == then) {
                    row[gate] = c;
                    reach(passage, gate + 1, passage.paceAfter(gate, pace, c), then);
                }
            }
        }
    }

    /** The latest act, and the bodies that ran in it. */
    private static final class Acts {
        private static final int TURNS = 0, SLIDES = 1, TELLS = 2, DEEPEST = 20;
        /** The body of each kind for each act; 0: it has none. */
        private static final int[] BODY = {
            1, 2, 3,
            11, 0, 0,
            0, 21, 0,
            0, 0, 31,
            0, 0, 41,
            51, 0, 0,
            0, 61, 0};

        int ran;
        final int[] bodies = new int[MAX_KEPT];
        private int ownKind;
        private int ownV;
        private int ownNumber;

        int begin(Gates gates, int gate, int act, int x) {
            ran = 0;
            ownKind = gates.kind[gate];
            ownV = gates.v[gate];
            ownNumber = gate;
            return perform(ownKind, act, x, 0);
        }

        /** An act from a kind on upward. */
        private int perform(int from, int act, int x, int depth) {
            int kind = from;
            for (int i = 0; i < KINDS && kind > 0 && BODY[kind * 3 + act] == 0; i++) {
                kind = ABOVE[kind];
            }
            if (kind < 0 || depth > DEEPEST) {
                return 0;
            }
            int body = BODY[kind * 3 + act];
            if (ran < MAX_KEPT) {
                bodies[ran] = body;
            }
            ran++;
            return doBody(body, ABOVE[kind], x, depth + 1);
        }

        private int doBody(int body, int above, int x, int depth) {
            switch (body) {
                case 1: return x + ownNumber;
                case 2: return perform(ownKind, TURNS, x, depth) - ownV;
                case 3: return perform(ownKind, SLIDES, x, depth) * 2;
                case 11: return perform(above, TURNS, x * 3, depth);
                case 21: return -perform(above, SLIDES, x, depth);
                case 31: return perform(above, TELLS, x, depth) ^ 7;
                case 41: return perform(above, TELLS, x - 1, depth) + perform(ownKind, TURNS, 2, depth);
                case 51: return perform(above, TURNS, x, depth) ^ ownNumber;
                case 61: return perform(above, SLIDES, x, depth) + ownV;
                default: return 0;
            }
        }
    }
}
