import java.util.Map;
import java.util.Set;
import java.util.TreeSet;
import java.util.function.ToLongFunction;

/**
 * For each promise its refusals: what each answers, that it changes nothing, which one is told of
 * several, and that the last number ahead of each is taken. Also that what is asked changes nothing,
 * and that what changes something changes nothing else.
 */
public final class RefusalTest {
    private static final Check CHECK = new Check();
    private static final long NO = FortyGates.NO;
    private static final int NONE = -1, BAD = -2, STATE = -3, FULL = -4;
    private static final int MAX = Integer.MAX_VALUE, MIN = Integer.MIN_VALUE;
    private static final String[] SEEN = {seenOf(Scene.EMPTY), seenOf(Scene.SOME), seenOf(Scene.FULL)};

    private RefusalTest() {
    }

    public static void main(String[] args) {
        scenes();
        feed();
        slope();
        gate();
        of();
        turn();
        plan();
        row();
        skier();
        skill();
        told();
        run();
        would();
        quickestClean();
        up();
        surest();
        sure();
        carry();
        start();
        ruttedWax();
        loses();
        wins();
        risk();
        set();
        rank();
        mean();
        slowest();
        see();
        fits();
        book();
        act();
        trace();
        as();
        undo();
        count();
        askedAlone();
        changesAlone();
        thereAndBack();
        imageAlone();
        CHECK.end();
    }

    private static String seenOf(int scene) {
        return Scene.seen(Scene.make(scene));
    }

    private static String name(int scene) {
        return scene == Scene.EMPTY ? " on nothing" : scene == Scene.SOME ? " on some" : " on all that is full";
    }

    /** The call is answered so, and leaves all as it was. */
    private static void same(int scene, String what, long due, ToLongFunction<FortyGates> call) {
        FortyGates x = Scene.make(scene);
        CHECK.due(what + name(scene), call.applyAsLong(x), due);
        CHECK.so(what + name(scene) + " changes nothing", Scene.seen(x).equals(SEEN[scene]));
    }

    private static void sameInAll(String what, long due, ToLongFunction<FortyGates> call) {
        for (int scene = Scene.EMPTY; scene <= Scene.FULL; scene++) {
            same(scene, what, due, call);
        }
    }

    /** The call is no refusal: it is answered so. */
    private static void taken(int scene, String what, long due, ToLongFunction<FortyGates> call) {
        CHECK.due(what + name(scene), call.applyAsLong(Scene.make(scene)), due);
    }

    private static int[] none(int size) {
        return new int[] {MIN, -2, -1, size, size + 1, 8, 10, 100, MAX};
    }

    private interface WithGate {
        long answer(FortyGates x, int gate);
    }

    /** No such gate, in each scene; 0 and the last one there are. */
    private static void noGate(String what, long due, WithGate call) {
        for (int scene = Scene.EMPTY; scene <= Scene.FULL; scene++) {
            for (int gate : none(Scene.GATES[scene])) {
                same(scene, what + " gate " + gate, due, x -> call.answer(x, gate));
            }
            for (int gate : new int[] {0, Scene.GATES[scene] - 1}) {
                if (gate >= 0 && gate < Scene.GATES[scene]) {
                    CHECK.so(what + " gate " + gate, call.answer(Scene.make(scene), gate) != due);
                }
            }
        }
    }

    private static void noSkier(String what, long due, WithGate call) {
        for (int scene = Scene.EMPTY; scene <= Scene.FULL; scene++) {
            for (int skier : none(Scene.SKIERS[scene])) {
                same(scene, what + " skier " + skier, due, x -> call.answer(x, skier));
            }
            for (int skier : new int[] {0, Scene.SKIERS[scene] - 1}) {
                if (skier >= 0 && skier < Scene.SKIERS[scene]) {
                    CHECK.so(what + " skier " + skier, call.answer(Scene.make(scene), skier) != due);
                }
            }
        }
    }

    private static void scenes() {
        int[][] counts = {{0, 0, 0, 0, 0, 0, 0}, {3, 3, 2, 2, 2, 2, 7}, {7, 5, 5, 7, 8, 100, 5}};
        for (int scene = Scene.EMPTY; scene <= Scene.FULL; scene++) {
            FortyGates x = Scene.make(scene);
            for (int what = 0; what <= 6; what++) {
                CHECK.due("count " + what + name(scene), x.count(what), counts[scene][what]);
            }
            CHECK.so("like calls, like answers" + name(scene), seenOf(scene).equals(SEEN[scene]));
        }
    }

    private static void feed() {
        int[] bad = {MIN, -2, -1, 128, 129, 256, 353, 65536 + 'r', MAX};
        for (int sign : bad) {
            // of BAD and FULL it is BAD
            sameInAll("2: feed " + sign, BAD, x -> x.feed(sign));
        }
        for (int sign : new int[] {0, 1, 'r', 126, 127}) {
            taken(Scene.EMPTY, "2: feed " + sign, 1, x -> x.feed(sign));
            taken(Scene.SOME, "2: feed " + sign, 3, x -> x.feed(sign));
            same(Scene.FULL, "2: feed " + sign, FULL, x -> x.feed(sign));
        }
        FortyGates x = new FortyGates();
        Scene.feed(x, "ru");
        x.feed(128);
        x.feed(-1);
        Scene.feed(x, "t 7");
        CHECK.due("2: BAD ones are not on the tape", x.slope(), 0);
        CHECK.due("2: but the others", x.told(1), 7);
        FortyGates y = new FortyGates();
        CHECK.due("2: 100 signs", Scene.LONGEST.length(), 100);
        Scene.feed(y, Scene.LONGEST);
        CHECK.due("2: a sign for which there is no room", y.feed('&'), FULL);
        CHECK.due("2: is not on the tape", y.slope(), 0);
        CHECK.due("2: there is room again", y.feed('x'), 1);
    }

    private static void slope() {
        same(Scene.FULL, "3: slope", FULL, x -> x.slope());
        // the sixth is refused whatever stands on the tape: nothing, a fault, a slope
        for (String text : new String[] {"", "x", "rut 8"}) {
            FortyGates x = new FortyGates();
            for (int i = 0; i < 5; i++) {
                CHECK.due("3: slope " + i, Scene.slope(x, "rut " + i), i);
            }
            Scene.feed(x, text);
            CHECK.due("3: the sixth, '" + text + "'", x.slope(), FULL);
            CHECK.due("3: the tape stays", x.count(5), text.length());
            CHECK.due("3: five", x.count(2), 5);
            CHECK.due("3: the fifth holds", x.told(1), 4);
        }
        FortyGates x = Scene.make(Scene.SOME);
        CHECK.due("3: a fault, as it ends too early", x.slope(), -12);
        CHECK.due("3: the tape is empty by a fault, too", x.count(5), 0);
        FortyGates y = Scene.make(Scene.SOME);
        y.slope();
        Scene.feed(y, "fo");
        CHECK.so("3: nothing else changes by a fault", Scene.seen(y).equals(SEEN[Scene.SOME]));
    }

    private static void gate() {
        int[] kinds = {MIN, -2, -1, 7, 8, MAX};
        int[] numbers = {MIN, -2, -1, 10, 11, MAX};
        for (int kind : kinds) {
            sameInAll("4: kind " + kind, NONE, x -> x.gate(kind, 0, 0));
            sameInAll("4: kind " + kind + " ahead of v", NONE, x -> x.gate(kind, 10, 0));
            sameInAll("4: kind " + kind + " ahead of turn", NONE, x -> x.gate(kind, 0, -1));
        }
        for (int n : numbers) {
            sameInAll("4: v " + n, BAD, x -> x.gate(0, n, 0));
            sameInAll("4: turn " + n, BAD, x -> x.gate(6, 0, n));
            sameInAll("4: both " + n, BAD, x -> x.gate(6, n, n));
        }
        for (int kind = 0; kind <= 6; kind++) {
            int k = kind;
            same(Scene.FULL, "4: kind " + k, FULL, x -> x.gate(k, 9, 9));
            FortyGates x = Scene.make(Scene.SOME);
            CHECK.due("4: kind " + k, x.gate(k, 9, 0), 3);
            CHECK.due("4: kind " + k + " again", x.gate(k, 0, 9), 4);
            int[][] dues = {{k, 9, 0, 1}, {k, 0, 9, 1}};
            for (int what = 0; what < 4; what++) {
                CHECK.due("4: kind " + k + " what " + what, x.of(3, what), dues[0][what]);
                CHECK.due("4: kind " + k + " again, what " + what, x.of(4, what), dues[1][what]);
            }
            for (int i = 0; i < 4; i++) {
                CHECK.due("4: its row is 0 at first", x.row(3, i, 0), k == 6 ? 0 : STATE);
            }
        }
        FortyGates x = Scene.make(Scene.EMPTY);
        for (int i = 0; i < 7; i++) {
            CHECK.due("4: gate", x.gate(0, 0, 0), i);
        }
        CHECK.due("4: the eighth", x.gate(0, 0, 0), FULL);
        CHECK.due("4: seven", x.count(0), 7);
    }

    private static void of() {
        for (int what = 0; what <= 3; what++) {
            int w = what;
            noGate("5: of " + what, NONE, (x, gate) -> x.of(gate, w));
        }
        for (int what : new int[] {MIN, -1, 4, 5, MAX}) {
            sameInAll("5: what " + what, NONE, x -> x.of(0, what));
            sameInAll("5: both, what " + what, NONE, x -> x.of(7, what));
        }
    }

    private static void turn() {
        noGate("6: turn to 0", NONE, (x, gate) -> x.turn(gate, 0));
        noGate("6: turn to 9", NONE, (x, gate) -> x.turn(gate, 9));
        for (int n : new int[] {MIN, -2, -1, 10, 11, MAX}) {
            same(Scene.SOME, "6: turn to " + n, BAD, x -> x.turn(0, n));
            same(Scene.FULL, "6: turn to " + n, BAD, x -> x.turn(6, n));
            sameInAll("6: NONE ahead of BAD", NONE, x -> x.turn(-1, n));
            same(Scene.SOME, "6: NONE ahead of BAD, behind all", NONE, x -> x.turn(3, n));
        }
        for (int n : new int[] {0, 9}) {
            FortyGates x = Scene.make(Scene.SOME);
            CHECK.due("6: what it was", x.turn(0, n), 7);
            CHECK.due("6: what it is", x.of(0, 2), n);
            CHECK.due("6: what another is", x.of(1, 2), 5);
        }
        same(Scene.SOME, "6: turn to what it is", 7, x -> x.turn(0, 7));
    }

    private static void plan() {
        noGate("7: plan 0", NONE, (x, gate) -> x.plan(gate, 0));
        noGate("7: plan 2", NONE, (x, gate) -> x.plan(gate, 2));
        for (int c : new int[] {MIN, -2, -1, 3, 4, MAX}) {
            same(Scene.SOME, "7: plan " + c, BAD, x -> x.plan(0, c));
            same(Scene.FULL, "7: plan " + c, BAD, x -> x.plan(6, c));
            sameInAll("7: NONE ahead of BAD", NONE, x -> x.plan(-1, c));
            same(Scene.SOME, "7: NONE ahead of BAD, behind all", NONE, x -> x.plan(3, c));
        }
        for (int c = 0; c <= 2; c++) {
            FortyGates x = Scene.make(Scene.SOME);
            CHECK.due("7: what it was", x.plan(0, c), 2);
            CHECK.due("7: what it is", x.of(0, 3), c);
            CHECK.due("7: what another is", x.of(2, 3), 0);
        }
    }

    private static void row() {
        noGate("8: row of 0", NONE, (x, gate) -> x.row(gate, 0, 0));
        noGate("8: row of 3", NONE, (x, gate) -> x.row(gate, 3, 9));
        for (int k : new int[] {MIN, -2, -1, 4, 5, MAX}) {
            same(Scene.SOME, "8: k " + k, NONE, x -> x.row(1, k, 0));
            same(Scene.SOME, "8: k " + k + " ahead of BAD", NONE, x -> x.row(1, k, 10));
            same(Scene.SOME, "8: k " + k + " ahead of STATE", NONE, x -> x.row(0, k, 0));
            same(Scene.FULL, "8: k " + k + " ahead of both", NONE, x -> x.row(0, k, -1));
        }
        for (int n : new int[] {MIN, -2, -1, 10, 11, MAX}) {
            same(Scene.SOME, "8: to " + n, BAD, x -> x.row(1, 0, n));
            same(Scene.FULL, "8: to " + n, BAD, x -> x.row(6, 3, n));
            same(Scene.SOME, "8: to " + n + " ahead of STATE", BAD, x -> x.row(0, 0, n));
            sameInAll("8: NONE ahead of BAD", NONE, x -> x.row(7, 0, n));
        }
        for (int gate = 0; gate < 6; gate++) {
            int g = gate;
            same(Scene.FULL, "8: another kind, " + g, STATE, x -> x.row(g, 0, 0));
            same(Scene.FULL, "8: another kind, " + g + ", at 3", STATE, x -> x.row(g, 3, 9));
        }
        int[] were = {4, 0, 7, 9};
        for (int k = 0; k <= 3; k++) {
            for (int n : new int[] {0, 9}) {
                FortyGates x = Scene.make(Scene.SOME);
                CHECK.due("8: what it was", x.row(1, k, n), were[k]);
                for (int other = 0; other <= 3; other++) {
                    CHECK.due("8: what it is", x.row(1, other, 1), other == k ? n : were[other]);
                }
            }
        }
    }

    private static void skier() {
        for (int skill : new int[] {MIN, -2, -1, 10, 11, MAX}) {
            sameInAll("9: skill " + skill, BAD, x -> x.skier(skill));
        }
        for (int skill : new int[] {0, 9}) {
            same(Scene.FULL, "9: skill " + skill, FULL, x -> x.skier(skill));
            FortyGates x = Scene.make(Scene.EMPTY);
            for (int i = 0; i < 5; i++) {
                CHECK.due("9: skier", x.skier(skill), i);
                CHECK.due("9: skill", x.skill(i, -1), skill);
            }
            CHECK.due("9: the sixth", x.skier(skill), FULL);
            CHECK.due("9: five", x.count(1), 5);
        }
    }

    private static void skill() {
        noSkier("10: skill stays", NONE, (x, skier) -> x.skill(skier, -1));
        noSkier("10: skill 9", NONE, (x, skier) -> x.skill(skier, 9));
        for (int n : new int[] {MIN, -3, -2, 10, 11, MAX}) {
            same(Scene.SOME, "10: skill to " + n, BAD, x -> x.skill(0, n));
            same(Scene.FULL, "10: skill to " + n, BAD, x -> x.skill(4, n));
            sameInAll("10: NONE ahead of BAD", NONE, x -> x.skill(5, n));
            same(Scene.SOME, "10: NONE ahead of BAD, behind all", NONE, x -> x.skill(3, n));
        }
        same(Scene.SOME, "10: it stays", 6, x -> x.skill(0, -1));
        same(Scene.FULL, "10: it stays", 8, x -> x.skill(4, -1));
        for (int n : new int[] {0, 9}) {
            FortyGates x = Scene.make(Scene.SOME);
            CHECK.due("10: what it was", x.skill(1, n), 8);
            CHECK.due("10: what it is", x.skill(1, -1), n);
            CHECK.due("10: what another is", x.skill(0, -1), 6);
        }
    }

    private static void told() {
        for (int what : new int[] {MIN, -2, -1, 3, 4, MAX}) {
            sameInAll("11: what " + what, NONE, x -> x.told(what));
        }
        int[][] dues = {{0, 0, 0}, {3, 2, 4}, {1, 9, 7}};
        for (int scene = Scene.EMPTY; scene <= Scene.FULL; scene++) {
            for (int what = 0; what <= 2; what++) {
                int w = what;
                same(scene, "11: what " + what, dues[scene][what], x -> x.told(w));
            }
        }
    }

    private static void run() {
        noSkier("12: run", NONE, (x, skier) -> x.run(skier));
        FortyGates x = Scene.make(Scene.SOME);
        int would = x.would(2, 0);
        CHECK.due("12: run takes what it would", x.run(2), would);
        CHECK.due("12: runs are 1 more", x.told(0), 4);
    }

    private static void would() {
        for (int what : new int[] {0, 1, 2}) {
            noSkier("13: would " + what, NONE, (x, skier) -> x.would(skier, what));
        }
        for (int scene = Scene.EMPTY; scene <= Scene.FULL; scene++) {
            int size = Scene.GATES[scene];
            int[] none = {MIN, -10, -1, 3, 4, 9, 10 + size, 17, 18, 19, 20 + size, 27, 28, 30, 100, MAX};
            for (int what : none) {
                same(scene, "13: what " + what, NONE, x -> x.would(0, what));
            }
            for (int gate = 0; gate < size; gate++) {
                CHECK.so("13: takes at " + gate, Scene.make(scene).would(0, 10 + gate) > 0);
                CHECK.so("13: over at " + gate, Scene.make(scene).would(0, 20 + gate) >= 0);
            }
        }
        sameInAll("13: neither", NONE, x -> x.would(5, 3));
        FortyGates nothing = new FortyGates();
        nothing.skier(0);
        CHECK.due("13: no gate 0", nothing.would(0, 10), NONE);
        CHECK.due("13: nor over there", nothing.would(0, 20), NONE);
    }

    private static void quickestClean() {
        for (int k : new int[] {-1, 0, 6}) {
            noSkierRefused("14: quickest " + k, NONE, (x, skier) -> x.quickest(skier, k));
            noSkierRefused("15: clean " + k, NONE, (x, skier) -> x.clean(skier, k));
        }
        for (int k : new int[] {MIN, -3, -2, 7, 8, MAX}) {
            sameInAll("14: k " + k, NONE, x -> x.quickest(0, k));
            sameInAll("15: k " + k, NONE, x -> x.clean(0, k));
            sameInAll("14: neither, k " + k, NONE, x -> x.quickest(9, k));
            sameInAll("15: neither, k " + k, NONE, x -> x.clean(9, k));
        }
        FortyGates x = Scene.make(Scene.SOME);
        FortyGates y = Scene.make(Scene.FULL);
        for (int k = 0; k <= 6; k++) {
            CHECK.so("14: three gates, k " + k, k < 3 ? x.quickest(0, k) >= 0 : x.quickest(0, k) == -5);
            CHECK.so("14: seven gates, k " + k, y.quickest(4, k) >= 0);
            CHECK.so("15: three gates, k " + k, k < 3 ? x.clean(1, k) >= 0 : x.clean(1, k) == -5);
        }
    }

    /** As noSkier, where an answer that is no refusal needs more than a skier. */
    private static void noSkierRefused(String what, long due, WithGate call) {
        for (int scene = Scene.EMPTY; scene <= Scene.FULL; scene++) {
            for (int skier : none(Scene.SKIERS[scene])) {
                same(scene, what + " skier " + skier, due, x -> call.answer(x, skier));
            }
        }
    }

    private static void up() {
        for (int part = 0; part <= 1; part++) {
            int p = part;
            noSkier("16: up, part " + part, NO, (x, skier) -> x.up(skier, p));
        }
        for (int part : new int[] {MIN, -2, -1, 2, 3, MAX}) {
            sameInAll("16: part " + part, NO, x -> x.up(0, part));
            sameInAll("16: neither, part " + part, NO, x -> x.up(5, part));
        }
    }

    private static void surest() {
        for (int part = 0; part <= 1; part++) {
            int p = part;
            noSkier("17: surest in 0, part " + part, NO, (x, skier) -> x.surest(skier, 0, p));
            noSkier("17: surest in 999, part " + part, NO, (x, skier) -> x.surest(skier, 999, p));
        }
        for (int time : new int[] {MIN, -2, -1, 1000, 1001, 9999, MAX}) {
            sameInAll("17: time " + time, NO, x -> x.surest(0, time, 0));
            sameInAll("17: neither, time " + time, NO, x -> x.surest(5, time, 0));
            sameInAll("17: time " + time + " and part", NO, x -> x.surest(0, time, 2));
        }
        for (int part : new int[] {MIN, -2, -1, 2, 3, MAX}) {
            sameInAll("17: part " + part, NO, x -> x.surest(0, 500, part));
        }
    }

    private static void sure() {
        for (int k : new int[] {0, 6}) {
            noSkierRefused("18: sure " + k, NONE, (x, skier) -> x.sure(skier, 0, k));
            noSkierRefused("18: NONE ahead of BAD, " + k, NONE, (x, skier) -> x.sure(skier, 1000, k));
        }
        for (int k : new int[] {MIN, -2, -1, 7, 8, MAX}) {
            sameInAll("18: k " + k, NONE, x -> x.sure(0, 500, k));
            sameInAll("18: k " + k + " ahead of BAD", NONE, x -> x.sure(0, -1, k));
        }
        for (int time : new int[] {MIN, -2, -1, 1000, 1001, 9999, MAX}) {
            same(Scene.SOME, "18: time " + time, BAD, x -> x.sure(0, time, 0));
            same(Scene.SOME, "18: time " + time + ", k that there is not", BAD, x -> x.sure(0, time, 6));
            same(Scene.FULL, "18: time " + time, BAD, x -> x.sure(4, time, 6));
        }
        FortyGates x = Scene.make(Scene.SOME);
        FortyGates y = Scene.make(Scene.FULL);
        CHECK.due("18: time 0", x.sure(0, 0, 0), -5);
        for (int k = 0; k <= 6; k++) {
            CHECK.so("18: three gates, k " + k, k < 3 ? x.sure(0, 999, k) >= 0 : x.sure(0, 999, k) == -5);
            CHECK.so("18: seven gates, k " + k, y.sure(0, 999, k) >= 0);
        }
    }

    private static void carry() {
        noSkierRefused("19: carry at 0,", -10001, (x, skier) -> x.carry(skier, 0));
        noGate("19: carry,", -10001, (x, gate) -> x.carry(0, gate));
        sameInAll("19: neither", -10001, x -> x.carry(-1, -1));
        CHECK.so("19: the last of all", Scene.make(Scene.FULL).carry(4, 6) != -10001);
    }

    private static void start() {
        noSkier("20: start 0", NONE, (x, skier) -> x.start(skier, 0));
        noSkier("20: start 99", NONE, (x, skier) -> x.start(skier, 99));
        for (int n : new int[] {MIN, -2, -1, 100, 101, MAX}) {
            same(Scene.SOME, "20: n " + n, BAD, x -> x.start(0, n));
            same(Scene.FULL, "20: n " + n, BAD, x -> x.start(4, n));
            sameInAll("20: NONE ahead of BAD", NONE, x -> x.start(5, n));
            same(Scene.SOME, "20: NONE ahead of BAD, behind all", NONE, x -> x.start(3, n));
        }
    }

    private static void ruttedWax() {
        noSkier("21: rutted", NONE, (x, skier) -> x.rutted(skier));
        noSkier("22: wax", NONE, (x, skier) -> x.wax(skier));
    }

    private static void loses() {
        for (int what = 0; what <= 1; what++) {
            int w = what;
            noSkierRefused("23: loses, what " + what, NONE, (x, skier) -> x.loses(skier, 0, w));
            noSkierRefused("23: loses to, what " + what, NONE, (x, skier) -> x.loses(0, skier, w));
            noSkierRefused("23: NONE ahead of both, what " + what, NONE, (x, skier) -> x.loses(skier, skier, w));
        }
        for (int what : new int[] {MIN, -2, -1, 2, 3, MAX}) {
            sameInAll("23: what " + what, NONE, x -> x.loses(0, 1, what));
            sameInAll("23: what " + what + " ahead of both", NONE, x -> x.loses(0, 0, what));
        }
        for (int skier = 0; skier <= 2; skier++) {
            int s = skier;
            same(Scene.SOME, "23: both " + skier, BAD, x -> x.loses(s, s, 0));
            same(Scene.FULL, "23: both " + skier, BAD, x -> x.loses(s + 2, s + 2, 1));
        }
        CHECK.so("23: the last two", Scene.make(Scene.FULL).loses(3, 4, 0) >= 0);
    }

    private static void wins() {
        for (int what = 0; what <= 1; what++) {
            int w = what;
            noSkierRefused("24: wins, what " + what, NO, (x, skier) -> x.wins(skier, 0, w, 0));
            noSkierRefused("24: wins over, what " + what, NO, (x, skier) -> x.wins(0, skier, w, 1));
        }
        for (int n : new int[] {MIN, -2, -1, 2, 3, MAX}) {
            sameInAll("24: what " + n, NO, x -> x.wins(0, 1, n, 0));
            sameInAll("24: part " + n, NO, x -> x.wins(0, 1, 0, n));
            sameInAll("24: all " + n, NO, x -> x.wins(n, n, n, n));
        }
        for (int skier = 0; skier <= 4; skier++) {
            int s = skier;
            sameInAll("24: both " + skier, NO, x -> x.wins(s, s, 0, 0));
        }
        for (int what = 0; what <= 1; what++) {
            CHECK.so("24: the last two", Scene.make(Scene.FULL).wins(3, 4, what, 0) >= 0);
            CHECK.so("24: the last two, below", Scene.make(Scene.FULL).wins(4, 3, what, 1) >= 1);
        }
    }

    private static void risk() {
        noSkierRefused("25: risk", NO, (x, skier) -> x.risk(skier, 0, 0, 0));
        noSkierRefused("25: risk against", NO, (x, skier) -> x.risk(0, skier, 0, 1));
        for (int d : new int[] {MIN, -101, -100, 100, 101, MAX}) {
            sameInAll("25: d " + d, NO, x -> x.risk(0, 1, d, 0));
            sameInAll("25: d " + d + " and all", NO, x -> x.risk(5, 5, d, 2));
        }
        for (int part : new int[] {MIN, -2, -1, 2, 3, MAX}) {
            sameInAll("25: part " + part, NO, x -> x.risk(0, 1, 0, part));
        }
        for (int skier = 0; skier <= 4; skier++) {
            int s = skier;
            sameInAll("25: both " + skier, NO, x -> x.risk(s, s, 0, 0));
        }
        for (int d : new int[] {-99, 99}) {
            CHECK.so("25: the last two, d " + d, Scene.make(Scene.FULL).risk(3, 4, d, 0) >= 0);
            CHECK.so("25: the last two, d " + d + ", below", Scene.make(Scene.FULL).risk(4, 3, d, 1) >= 1);
        }
    }

    private static void set() {
        noSkierRefused("26: set", NONE, (x, skier) -> x.set(skier, 0));
        noSkierRefused("26: set against", NONE, (x, skier) -> x.set(0, skier));
        noSkierRefused("26: NONE ahead of both", NONE, (x, skier) -> x.set(skier, skier));
        for (int skier = 0; skier <= 2; skier++) {
            int s = skier;
            same(Scene.SOME, "26: both " + skier, BAD, x -> x.set(s, s));
            same(Scene.FULL, "26: both " + skier, BAD, x -> x.set(s + 2, s + 2));
        }
        int last = Scene.make(Scene.FULL).set(3, 4);
        CHECK.so("26: the last two", last == -5 || last >= 1);
    }

    private static void rank() {
        for (int scene = Scene.EMPTY; scene <= Scene.FULL; scene++) {
            int size = Scene.SKIERS[scene];
            for (int k : none(size)) {
                same(scene, "27: place " + k, NONE, x -> x.rank(k));
            }
            int bits = 0;
            FortyGates x = Scene.make(scene);
            for (int k = 0; k < size; k++) {
                int who = x.rank(k);
                CHECK.so("27: somebody at " + k, who >= 0 && who < size);
                bits |= 1 << who;
            }
            CHECK.due("27: everybody has a place", bits, (1 << size) - 1);
        }
    }

    private static void mean() {
        for (int part : new int[] {MIN, -2, -1, 2, 3, MAX}) {
            sameInAll("28: part " + part, NO, x -> x.mean(part));
        }
        for (int part = 0; part <= 1; part++) {
            int p = part;
            same(Scene.EMPTY, "28: nobody", NO, x -> x.mean(p));
            CHECK.so("28: somebody", Scene.make(Scene.SOME).mean(part) >= 1);
        }
    }

    private static void slowest() {
        noSkier("29: slowest", NONE, (x, skier) -> x.slowest(skier));
    }

    private static void see() {
        for (int scene = Scene.EMPTY; scene <= Scene.FULL; scene++) {
            for (int gate : none(Scene.GATES[scene])) {
                if (gate != -1) {
                    // on all that is full NONE is ahead of FULL, too
                    same(scene, "30: gate " + gate, NONE, x -> x.see(gate, 0));
                    same(scene, "30: gate " + gate + " ahead of BAD", NONE, x -> x.see(gate, -1));
                    same(scene, "30: gate " + gate + " ahead of BAD above", NONE, x -> x.see(gate, 10000));
                }
            }
            for (int time : new int[] {MIN, -1, 0, 9999, 10000, MAX}) {
                FortyGates x = Scene.make(scene);
                CHECK.due("30: none then, " + time + name(scene), x.see(-1, time), 0);
                CHECK.due("30: none are seen", x.count(3), 0);
                CHECK.due("30: once more", x.see(-1, time), 0);
            }
        }
        for (int time : new int[] {MIN, -2, -1, 10000, 10001, MAX}) {
            same(Scene.SOME, "30: time " + time, BAD, x -> x.see(2, time));
            same(Scene.FULL, "30: time " + time + " ahead of FULL", BAD, x -> x.see(0, time));
        }
        for (int time : new int[] {0, 9999}) {
            same(Scene.FULL, "30: the eighth, " + time, FULL, x -> x.see(6, time));
            taken(Scene.SOME, "30: the third, " + time, 3, x -> x.see(2, time));
        }
        FortyGates x = Scene.make(Scene.SOME);
        for (int i = 3; i <= 7; i++) {
            CHECK.due("30: to seven", x.see(0, 5), i);
        }
        CHECK.due("30: no more", x.see(0, 5), FULL);
        CHECK.due("30: seven", x.count(3), 7);
        x.see(-1, 0);
        CHECK.due("30: there is room again", x.see(0, 5), 1);
    }

    private static void fits() {
        for (int k : new int[] {-1, 0, 6}) {
            noSkierRefused("31: fits " + k, NONE, (x, skier) -> x.fits(skier, k));
        }
        for (int k : new int[] {MIN, -3, -2, 7, 8, MAX}) {
            sameInAll("31: k " + k, NONE, x -> x.fits(0, k));
            sameInAll("31: neither, k " + k, NONE, x -> x.fits(9, k));
        }
        FortyGates x = Scene.make(Scene.SOME);
        FortyGates y = Scene.make(Scene.FULL);
        for (int k = 0; k <= 6; k++) {
            CHECK.so("31: three gates, k " + k, k < 3 ? x.fits(0, k) >= 0 : x.fits(0, k) == -5);
            CHECK.so("31: seven gates, k " + k, y.fits(0, k) >= 0);
        }
    }

    private static void book() {
        for (int scene = Scene.EMPTY; scene <= Scene.FULL; scene++) {
            for (int skier : none(Scene.SKIERS[scene])) {
                if (skier != -1) {
                    same(scene, "33: skier " + skier, NONE, x -> x.book(skier, 0));
                    same(scene, "33: skier " + skier + " ahead of BAD", NONE, x -> x.book(skier, -1));
                    same(scene, "33: skier " + skier + " ahead of BAD above", NONE, x -> x.book(skier, 10000));
                }
            }
            for (int time : new int[] {MIN, -1, 0, 9999, 10000, MAX}) {
                FortyGates x = Scene.make(scene);
                CHECK.due("33: none then, " + time + name(scene), x.book(-1, time), 0);
                CHECK.due("33: none are booked", x.count(4), 0);
                CHECK.due("33: none is not so", x.looked(), -5);
                CHECK.due("33: once more", x.book(-1, time), 0);
            }
        }
        for (int time : new int[] {MIN, -2, -1, 10000, 10001, MAX}) {
            same(Scene.SOME, "33: time " + time, BAD, x -> x.book(2, time));
            same(Scene.FULL, "33: time " + time + " ahead of FULL", BAD, x -> x.book(0, time));
        }
        for (int time : new int[] {0, 9999}) {
            same(Scene.FULL, "33: the ninth, " + time, FULL, x -> x.book(4, time));
            taken(Scene.SOME, "33: the third, " + time, 3, x -> x.book(2, time));
        }
        FortyGates x = Scene.make(Scene.SOME);
        for (int i = 3; i <= 8; i++) {
            CHECK.due("33: to eight", x.book(0, 5), i);
        }
        CHECK.due("33: no more", x.book(0, 5), FULL);
        CHECK.due("33: eight", x.count(4), 8);
        x.book(-1, 0);
        CHECK.due("33: there is room again", x.book(0, 5), 1);
    }

    /** A refused act answers 0 and leaves no trace; all else stays. */
    private static void noAct(int scene, int gate, int act) {
        String what = "35: act " + act + " of " + gate + name(scene);
        FortyGates x = Scene.make(scene);
        CHECK.due(what, x.act(gate, act, 5), 0);
        CHECK.so(what + " leaves no trace", Scene.traceOf(x).equals("trace 0 -1"));
        CHECK.so(what + " changes nothing else", Scene.seenButTrace(x).equals(Scene.seenButTrace(Scene.make(scene))));
    }

    private static void act() {
        for (int scene = Scene.EMPTY; scene <= Scene.FULL; scene++) {
            for (int gate : none(Scene.GATES[scene])) {
                noAct(scene, gate, 0);
                noAct(scene, gate, 3);
            }
            for (int act : new int[] {MIN, -2, -1, 3, 4, MAX}) {
                noAct(scene, 0, act);
            }
        }
        for (int act = 0; act <= 2; act++) {
            FortyGates x = Scene.make(Scene.FULL);
            x.act(6, act, 5);
            CHECK.so("35: an act leaves a trace", x.count(6) > 0);
            CHECK.so("35: and changes nothing else",
                    Scene.seenButTrace(x).equals(Scene.seenButTrace(Scene.make(Scene.FULL))));
        }
    }

    private static void trace() {
        int[] ran = {0, 7, 5};
        for (int scene = Scene.EMPTY; scene <= Scene.FULL; scene++) {
            for (int i : new int[] {MIN, -2, -1, ran[scene], ran[scene] + 1, 19, 20, 21, MAX}) {
                same(scene, "36: i " + i, NONE, x -> x.trace(i));
            }
        }
        int[] some = {41, 3, 2, 11, 1, 11, 1};
        for (int i = 0; i < some.length; i++) {
            int at = i;
            same(Scene.SOME, "36: i " + i, some[i], x -> x.trace(at));
        }
    }

    private static void as() {
        for (int k : new int[] {0, 6}) {
            noGate("37: as " + k, NONE, (x, gate) -> x.as(gate, k));
        }
        for (int k : new int[] {MIN, -2, -1, 7, 8, MAX}) {
            sameInAll("37: k " + k, NONE, x -> x.as(0, k));
            sameInAll("37: neither, k " + k, NONE, x -> x.as(7, k));
        }
        same(Scene.SOME, "37: of another kind", -6, x -> x.as(0, 1));
        same(Scene.SOME, "37: under it, not it", -6, x -> x.as(0, 5));
        same(Scene.SOME, "37: it", 3, x -> x.as(0, 2));
        same(Scene.SOME, "37: above it", 3, x -> x.as(0, 0));
    }

    private static void undo() {
        same(Scene.EMPTY, "39: no image", STATE, x -> x.undo());
        FortyGates x = new FortyGates();
        x.gate(6, 1, 2);
        x.skier(3);
        CHECK.due("39: no image, though there is a gate", x.undo(), STATE);
        CHECK.due("39: the gate stays", x.count(0), 1);
        CHECK.due("39: the skier stays", x.count(1), 1);
        FortyGates y = new FortyGates();
        CHECK.due("38: an image of nothing", y.image(), 0);
        y.gate(0, 0, 0);
        CHECK.due("39: is an image", y.undo(), 0);
        CHECK.due("39: of nothing", y.count(0), 0);
        CHECK.due("39: and stays one", y.undo(), 0);
        int[] gates = {0, 3, 7};
        for (int scene = Scene.EMPTY; scene <= Scene.FULL; scene++) {
            FortyGates z = Scene.make(scene);
            CHECK.due("38: image", z.image(), gates[scene]);
            String trace = Scene.traceOf(z);
            CHECK.due("39: undo", z.undo(), gates[scene]);
            CHECK.so("39: the trace is not in it", Scene.traceOf(z).equals(trace));
        }
    }

    private static void count() {
        for (int what : new int[] {MIN, -2, -1, 7, 8, MAX}) {
            sameInAll("40: what " + what, NONE, x -> x.count(what));
        }
    }

    /** What is only asked changes nothing, though it is answered. */
    private static void askedAlone() {
        for (int scene = Scene.SOME; scene <= Scene.FULL; scene++) {
            FortyGates x = Scene.make(scene);
            for (int part = 0; part <= 1; part++) {
                x.up(0, part);
                x.surest(1, 300, part);
                x.wins(0, 1, part, part);
                x.risk(1, 0, -9, part);
                x.mean(part);
                x.loses(0, 1, part);
            }
            x.would(0, 0);
            x.quickest(2, 0);
            x.clean(2, 0);
            x.sure(1, 300, 0);
            x.carry(0, 1);
            x.start(0, 77);
            x.rutted(0);
            x.wax(0);
            x.set(0, 1);
            x.set(1, 0);
            x.rank(0);
            x.slowest(0);
            x.fits(1, 0);
            x.who();
            x.looked();
            x.as(0, 0);
            x.count(0);
            x.of(0, 0);
            CHECK.so("what is asked changes nothing" + name(scene), Scene.seen(x).equals(SEEN[scene]));
        }
    }

    /** A call changes these things, and nothing else. */
    private static void changes(String what, ToLongFunction<FortyGates> call, String... due) {
        FortyGates x = Scene.make(Scene.SOME);
        call.applyAsLong(x);
        Set<String> changed = differences(Scene.held(Scene.make(Scene.SOME)), Scene.held(x));
        CHECK.so(what + " changes " + changed, changed.equals(new TreeSet<>(Set.of(due))));
    }

    private static Set<String> differences(Map<String, Integer> some, Map<String, Integer> others) {
        Set<String> names = new TreeSet<>(some.keySet());
        names.addAll(others.keySet());
        names.removeIf(name -> some.containsKey(name) && others.containsKey(name)
                && some.get(name).intValue() == others.get(name));
        return names;
    }

    private static void changesAlone() {
        changes("2: feed", x -> x.feed('g'), "tape", "read");
        changes("3: a fault", x -> x.slope(), "tape", "read");
        changes("3: a slope", x -> Scene.slope(x, "g 9"), "tape", "read", "slopes", "rut", "fog");
        changes("4: gate", x -> x.gate(5, 1, 2), "gates", "kind 3", "v 3", "turn 3", "line 3", "row 3 0", "row 3 1", "row 3 2",
                "row 3 3");
        changes("6: turn", x -> x.turn(0, 9), "turn 0");
        changes("7: plan", x -> x.plan(2, 2), "line 2");
        changes("8: row", x -> x.row(1, 2, 3), "row 1 2");
        changes("9: skier", x -> x.skier(3), "skiers", "skill 3");
        changes("10: skill", x -> x.skill(1, 1), "skill 1");
        changes("10: skill stays", x -> x.skill(1, -1));
        changes("12: run", x -> x.run(2), "runs");
        changes("30: see", x -> x.see(1, 5), "seen");
        changes("30: none seen", x -> x.see(-1, 0), "seen");
        changes("33: book", x -> x.book(1, 5), "book");
        changes("33: none booked", x -> x.book(-1, 0), "book");
        changes("35: act", x -> x.act(0, 0, 5), "ran", "trace 0", "trace 1", "trace 2", "trace 3", "trace 4", "trace 5",
                "trace 6");
        changes("35: no act", x -> x.act(0, 3, 5), "ran", "trace 0", "trace 1", "trace 2", "trace 3", "trace 4", "trace 5",
                "trace 6");
        changes("37: as", x -> x.as(0, 0));
    }

    /** What was changed and changed back is as it was, with all that is told of it. */
    private static void thereAndBack() {
        for (int scene = Scene.SOME; scene <= Scene.FULL; scene++) {
            FortyGates x = Scene.make(scene);
            int told = scene == Scene.SOME ? 1 : 6;
            for (int gate = 0; gate < Scene.GATES[scene]; gate++) {
                x.turn(gate, x.turn(gate, 9));
                x.plan(gate, x.plan(gate, 0));
            }
            for (int k = 0; k < 4; k++) {
                x.row(told, k, x.row(told, k, 5));
            }
            for (int skier = 0; skier < Scene.SKIERS[scene]; skier++) {
                x.skill(skier, x.skill(skier, 4));
            }
            CHECK.so("changed and changed back" + name(scene), Scene.seen(x).equals(SEEN[scene]));
        }
        FortyGates x = Scene.make(Scene.SOME);
        int first = x.would(0, 10);
        int both = first + x.would(0, 11);
        x.see(-1, 0);
        x.see(0, first);
        x.see(1, both);
        CHECK.so("30: seen again, and the book stays", Scene.seen(x).equals(SEEN[Scene.SOME]));
        FortyGates y = Scene.make(Scene.SOME);
        int least = y.quickest(0, -1);
        int other = y.quickest(1, -1);
        y.book(-1, 0);
        y.book(0, least);
        y.book(1, other + 1);
        CHECK.so("33: booked again, and what was seen stays", Scene.seen(y).equals(SEEN[Scene.SOME]));
    }

    /** An image changes nothing but what an undo brings back; THE TRACE stays by both. */
    private static void imageAlone() {
        for (int scene = Scene.EMPTY; scene <= Scene.FULL; scene++) {
            FortyGates x = Scene.make(scene);
            String trace = Scene.traceOf(x);
            x.image();
            CHECK.so("38: the trace stays" + name(scene), Scene.traceOf(x).equals(trace));
            Map<String, Integer> was = Scene.held(Scene.make(scene));
            Map<String, Integer> is = Scene.held(x);
            for (String thing : was.keySet()) {
                if (!thing.startsWith("undo")) {
                    CHECK.due("38: " + thing + name(scene), is.getOrDefault(thing, MIN), was.get(thing));
                    CHECK.due("39: " + thing + name(scene), thing.startsWith("trace") || thing.equals("ran") ? was.get(thing)
                            : is.getOrDefault("undone " + thing, MIN), was.get(thing));
                }
            }
            FortyGates y = Scene.make(scene);
            y.undo();
            CHECK.so("39: the trace stays" + name(scene), Scene.traceOf(y).equals(trace));
        }
    }
}
