/**
 * The bounds that the terms name, one by one: where a number is held, cut or wraps, what is equal,
 * what is empty and what is full. The answers were worked out by hand.
 */
public final class BoundsTest {
    private static final Check CHECK = new Check();
    private static final int GATE = 0, OPEN = 1, TIGHT = 2, STEEP = 3, FLAT = 4, BLIND = 5, TOLD = 6;
    private static final int MAX = Integer.MAX_VALUE, MIN = Integer.MIN_VALUE;

    private BoundsTest() {
    }

    public static void main(String[] args) {
        firstPace();
        steepPace();
        paceHeld();
        thirdOfTurn();
        fog();
        overHeld();
        iceHeld();
        takesHeld();
        rutCut();
        rowByRuns();
        rowsOfSeven();
        runsByTen();
        stays();
        fractions();
        lines();
        within();
        surerAhead();
        carry();
        startRutted();
        wax();
        loses();
        wins();
        risk();
        set();
        setFewGates();
        rank();
        mean();
        slowest();
        seen();
        seenOfSeven();
        who();
        booked();
        acts();
        actsOfSeven();
        fullAndUndone();
        lastUndone();
        paceUndone();
        noted();
        longSlopes();
        conditions();
        noGates();
        CHECK.end();
    }

    private static void due(String what, long got, long want) {
        CHECK.due(what, got, want);
    }

    private static FortyGates one(int kind, int v, int turn, int skill) {
        FortyGates x = new FortyGates();
        x.gate(kind, v, turn);
        x.skier(skill);
        return x;
    }

    private static FortyGates slope(FortyGates x, String text) {
        due("slope '" + text + "'", Math.min(0, Scene.slope(x, text)), 0);
        return x;
    }

    /** A skier of skill 9 who comes to the last gate by a pace (0 .. 9), all by line 0. */
    private static FortyGates byPace(int pace, int kind, int turn) {
        FortyGates x = new FortyGates();
        x.skier(9);
        // 3, less a third of the turn, and 3 more: 3 to 6; by two such ones 6 to 9
        for (int before = pace > 6 ? 2 : 1; before > 0; before--) {
            int to = pace - (before == 2 ? 3 : 0);
            if (to >= 3) {
                x.gate(OPEN, 0, before == 2 ? 0 : 3 * ((pace > 6 ? 9 : 6) - pace));
            } else {
                x.gate(GATE, 0, 9);
            }
        }
        for (int i = 0; i < x.count(0); i++) {
            x.plan(i, 0);
        }
        due("comes by " + pace, x.would(0, 1), pace < 3 ? 1 : pace);
        x.plan(x.gate(kind, 0, turn), 0);
        return x;
    }

    private static void firstPace() {
        // by 3 from the start on, of anybody
        for (int skill = 0; skill <= 9; skill++) {
            due("1: a first pace of 3", slope(one(GATE, 0, 0, skill), "wax 9 p=3").would(0, 0), 44);
            due("1: and none else", slope(one(GATE, 0, 0, skill), "wax 9 !p=3").would(0, 0), 53);
        }
        FortyGates x = one(OPEN, 0, 0, 9);
        x.gate(GATE, 0, 0);
        due("1: carried on", slope(x, "wax 9 p=6").would(0, 11), 32);
        x.run(0);
        due("1: 3 at the start again", slope(x, "wax 9 p=3").would(0, 10), 44);
    }

    private static void steepPace() {
        int[] kinds = {STEEP, TOLD};
        for (int kind : kinds) {
            // P is 1 more; turn 9: OVER is P and 9 less 13; P behind: 1 more, less 3, less OVER
            int[][] rows = {{6, 60 - 28 + 9, 3, 2}, {7, 60 - 32 + 12, 4, 2}, {8, 60 - 36 + 15, 5, 2}, {9, 60 - 36 + 15, 5, 2}};
            for (int[] row : rows) {
                FortyGates x = byPace(row[0], kind, 9);
                String what = "1: kind " + kind + " by " + row[0];
                int gate = x.count(0) - 1;
                due(what + " takes", x.would(0, 10 + gate), row[1]);
                due(what + " over", x.would(0, 20 + gate), row[2]);
                due(what + " behind", x.would(0, 1), row[3]);
            }
        }
        int[] others = {GATE, OPEN, TIGHT, FLAT, BLIND};
        for (int kind : others) {
            FortyGates x = byPace(9, kind, 0);
            due("1: kind " + kind + " by 9 takes", x.would(0, 12), kind == FLAT ? 18 : 24);
        }
    }

    private static void paceHeld() {
        // an OPEN one: 3 more, 4 by line 2
        int[][] open = {{5, 0, 8}, {6, 0, 9}, {7, 0, 9}, {9, 0, 9}, {4, 2, 8}, {5, 2, 9}, {6, 2, 9}, {9, 2, 9}};
        for (int[] row : open) {
            FortyGates x = byPace(row[0], OPEN, 0);
            x.plan(x.count(0) - 1, row[1]);
            due("1: OPEN by " + row[0] + " line " + row[1], x.would(0, 1), row[2]);
        }
        // a plain one: 1 more
        int[][] plain = {{7, 8}, {8, 9}, {9, 9}};
        for (int[] row : plain) {
            due("1: GATE by " + row[0], byPace(row[0], GATE, 0).would(0, 1), row[1]);
        }
        // turn 8, line 0: OVER is 7 less the skill; pace behind: 3 and 1, less 2, less OVER
        int[][] least = {{7, 2}, {6, 1}, {5, 0}, {4, 0}, {0, 0}};
        for (int[] row : least) {
            FortyGates x = one(GATE, 0, 8, row[0]);
            x.plan(0, 0);
            due("1: pace behind by skill " + row[0], x.would(0, 1), row[1]);
            x.gate(FLAT, 0, 0);
            x.plan(1, 0);
            due("1: as it comes to the next", x.would(0, 11), 90 - 8 * row[1]);
        }
    }

    private static void thirdOfTurn() {
        // line 2, skill 9: no OVER; 3 and 2, less the third
        int[] plain = {5, 5, 5, 4, 4, 4, 3, 3, 3, 2};
        int[] tight = {5, 4, 4, 4, 3, 3, 3, 2, 2, 2};
        for (int turn = 0; turn <= 9; turn++) {
            FortyGates x = one(GATE, 0, turn, 9);
            x.plan(0, 2);
            due("1: the third of " + turn, x.would(0, 1), plain[turn]);
            FortyGates y = one(TIGHT, 9, turn, 9);
            y.plan(0, 2);
            due("1: the third of " + turn + " and 2", y.would(0, 1), tight[turn]);
        }
    }

    private static void fog() {
        for (int skill = 0; skill <= 9; skill++) {
            for (int fog = 0; fog <= 10; fog++) {
                // turn 9 and 2, v 4 more in fog; by line 0: 3 and T, less the skill, less 4
                int over = 10 - skill + (fog > skill ? 4 : 0);
                FortyGates x = slope(one(BLIND, 4, 9, skill), "fog " + fog);
                x.plan(0, 0);
                due("1: BLIND, fog " + fog + " skill " + skill, x.would(0, 20), over);
            }
        }
        FortyGates x = one(BLIND, 9, 9, 0);
        x.plan(0, 0);
        due("1: BLIND without a slope", x.would(0, 20), 10);
        due("1: fog 99, v 9", slope(x, "fog 99").would(0, 20), 19);
        due("1: fog 99, v 0", slope(one(BLIND, 0, 9, 0), "fog 99").would(0, 20), 7);
        due("1: TIGHT in fog", slope(one(TIGHT, 9, 9, 0), "fog 99").would(0, 20), 7);
        due("1: GATE in fog", slope(one(GATE, 9, 9, 0), "fog 99").would(0, 20), 5);
        due("1: no fog by a slope without", slope(x, "rut 1").would(0, 20), 10);
    }

    private static void overHeld() {
        // line 0: 3 and the turn, less the skill, less 4: 1, 0, -1, -13
        int[][] rows = {{6, 4, 1, 51, 1}, {6, 5, 0, 48, 2}, {6, 6, 0, 48, 2}, {0, 9, 0, 48, 4}};
        for (int[] row : rows) {
            FortyGates x = one(GATE, 0, row[0], row[1]);
            x.plan(0, 0);
            String what = "1: turn " + row[0] + " skill " + row[1];
            due(what + " over", x.would(0, 20), row[2]);
            due(what + " takes", x.would(0, 0), row[3]);
            due(what + " behind", x.would(0, 1), row[4]);
            due(what + " slides", x.would(0, 2), row[2] > 0 ? 1 : 0);
            due(what + " stays up", x.up(0, 0), row[2] > 0 ? 19 : 1);
        }
        // each line is 3 less
        int[] over = {8, 5, 2};
        for (int c = 0; c <= 2; c++) {
            FortyGates x = one(GATE, 0, 9, 0);
            x.plan(0, c);
            due("1: line " + c, x.would(0, 20), over[c]);
        }
    }

    private static void iceHeld() {
        // line 1, turn 6, skill 2: OVER is the ice alone
        int[][] rows = {{0, 0}, {1, 1}, {18, 18}, {19, 19}, {20, 20}, {21, 20}, {99, 20}};
        for (int[] row : rows) {
            FortyGates x = slope(one(GATE, 0, 6, 2), "ice " + row[0] + " g=0");
            due("1: ice " + row[0], x.would(0, 20), row[1]);
            due("1: ice " + row[0] + " takes", x.would(0, 0), 53 + 3 * row[1]);
            due("1: ice " + row[0] + " stays up", x.up(0, 0) * 20 / x.up(0, 1), 20 - row[1]);
        }
        FortyGates x = slope(one(GATE, 0, 6, 2), "ice 9 g=0;ice 9 t=6;ice 9 s<2;ice 1 k=0;ice 99 g>0");
        due("1: all ice that holds, together", x.would(0, 20), 19);
        FortyGates y = slope(one(GATE, 0, 6, 2), "ice 99 g=0;ice 99 g=0;ice 99 g=0;ice 99 g=0;ice 99 g=0");
        due("1: much ice", y.would(0, 20), 20);
        // the sum is held, not what goes into it: 20 less 12 would be less than 20
        FortyGates z = slope(one(GATE, 0, 0, 9), "ice 30 g=0");
        due("1: held at the end alone", z.would(0, 20), 17);
    }

    private static void takesHeld() {
        // 53 without wax
        int[][] rows = {{0, 53}, {51, 2}, {52, 1}, {53, 1}, {54, 1}, {99, 1}};
        for (int[] row : rows) {
            FortyGates x = slope(one(GATE, 0, 6, 2), "wax " + row[0] + " g=0");
            due("1: wax " + row[0], x.would(0, 0), row[1]);
            due("1: wax " + row[0] + ", the gate", x.would(0, 10), row[1]);
        }
        due("1: all wax that holds, together",
                slope(one(GATE, 0, 6, 2), "wax 9 g=0;wax 9 t=6;wax 9 s<2;wax 1 k=0;wax 99 g>0").would(0, 0), 34);
        // wax is taken from all together: a rut of 9 and 60 of wax leave 2
        FortyGates x = slope(one(GATE, 0, 6, 2), "rut 1;wax 60 g=0");
        for (int i = 0; i < 9; i++) {
            due("1: ruts, waxed away", x.run(0), 1);
        }
        due("1: 62 less 60", x.would(0, 0), 2);
        FortyGates two = one(GATE, 0, 6, 2);
        two.gate(GATE, 0, 6);
        due("1: each one takes 1 at least", slope(two, "wax 99 g<9").would(0, 0), 2);
    }

    private static void rutCut() {
        // skill 9, turn 0: 48 by line 0
        int[][] rows = {{1, 0, 0}, {1, 1, 1}, {1, 99, 99}, {2, 1, 0}, {2, 2, 1}, {2, 3, 1}, {2, 4, 2}, {3, 2, 0}, {3, 3, 1},
            {3, 5, 1}, {3, 6, 2}, {50, 49, 0}, {50, 50, 1}, {50, 99, 1}, {98, 97, 0}, {98, 98, 1}, {99, 98, 0}, {99, 99, 1},
            {0, 0, 0}, {0, 1, 0}, {0, 99, 0}};
        for (int[] row : rows) {
            FortyGates x = slope(one(GATE, 0, 0, 9), "rut " + row[0]);
            due("1: rut " + row[0] + " by runs " + row[1], x.start(0, row[1]), 48 + row[2]);
        }
        due("1: no slope, no rut", one(GATE, 0, 0, 9).start(0, 99), 48);
        due("1: a slope without a rut", slope(one(GATE, 0, 0, 9), "fog 1").start(0, 99), 48);
        due("1: the last rut, 0", slope(one(GATE, 0, 0, 9), "rut 1;rut 0").start(0, 99), 48);
        FortyGates x = one(GATE, 0, 0, 9);
        x.gate(GATE, 0, 0);
        due("1: at each gate", slope(x, "rut 9").start(0, 99), 48 + 44 + 11 + 11);
    }

    private static void rowByRuns() {
        FortyGates x = one(TOLD, 9, 0, 9);
        for (int k = 0; k <= 3; k++) {
            due("1: a row is 0 at first", x.start(0, k), 44);
            due("8: 0 at first", x.row(0, k, 2 * k + 3), 0);
        }
        int[] runs = {0, 1, 2, 3, 4, 5, 7, 8, 96, 97, 98, 99};
        for (int n : runs) {
            due("1: the row by runs " + n, x.start(0, n), 44 + 2 * (n % 4) + 3);
        }
        for (int n = 0; n <= 8; n++) {
            x.plan(0, 0);
            due("1: the row by run " + n, x.run(0), 44 + 2 * (n % 4) + 3);
        }
    }

    /** Each gate has a row of its own. */
    private static void rowsOfSeven() {
        FortyGates x = new FortyGates();
        x.skier(9);
        for (int gate = 0; gate < 7; gate++) {
            x.gate(TOLD, 0, 0);
            x.plan(gate, 0);
            for (int k = 0; k < 4; k++) {
                due("8: 0 at first", x.row(gate, k, (3 * gate + k) % 10), 0);
            }
        }
        // by 3, 5, 7, 9, 9, .. and 1 more
        int[] takes = {44, 36, 28, 24, 24, 24, 24};
        for (int n = 0; n <= 5; n++) {
            int together = 0;
            for (int gate = 0; gate < 7; gate++) {
                int row = (3 * gate + n % 4) % 10;
                due("1: the row of " + gate + " by run " + n, x.would(0, 10 + gate), takes[gate] + row);
                together += takes[gate] + row;
            }
            due("1: all rows together by run " + n, x.run(0), together);
        }
        for (int gate = 0; gate < 7; gate++) {
            for (int k = 0; k < 4; k++) {
                due("8: what it was", x.row(gate, k, 0), (3 * gate + k) % 10);
            }
        }
    }

    private static void runsByTen() {
        int[][] rows = {{0, 0}, {1, 1}, {9, 9}, {10, 0}, {11, 1}, {19, 9}, {20, 0}, {90, 0}, {98, 8}, {99, 9}};
        for (int[] row : rows) {
            for (int r = 0; r <= 10; r++) {
                FortyGates x = slope(one(GATE, 0, 0, 9), "wax 8 r=" + r);
                due("1: r=" + r + " by runs " + row[0], x.start(0, row[0]), row[1] == r ? 40 : 48);
            }
        }
        FortyGates x = slope(one(GATE, 0, 0, 9), "wax 8 r=0");
        for (int n = 0; n <= 11; n++) {
            due("1: r=0 by run " + n, x.quickest(0, -1), n % 10 == 0 ? 40 : 48);
            x.run(0);
        }
    }

    private static void stays() {
        int[][] rows = {{0, 1, 1}, {1, 19, 20}, {2, 9, 10}, {10, 1, 2}, {18, 1, 10}, {19, 1, 20}, {20, 0, 1}};
        for (int[] row : rows) {
            FortyGates x = slope(one(GATE, 0, 6, 2), "ice " + row[0] + " g=0");
            due("1: stays up, over " + row[0], x.up(0, 0), row[1]);
            due("1: stays up, over " + row[0] + ", below", x.up(0, 1), row[2]);
            due("1: slides, over " + row[0], x.would(0, 2), row[0] == 0 ? 0 : 1);
        }
        // 19 of 20 twice: to the second gate one comes by 1, so it is 1 and 9, less 3, 2 and 4
        FortyGates x = one(GATE, 0, 6, 2);
        x.gate(GATE, 0, 0);
        due("1: each by itself", slope(x, "ice 1 g=0;ice 9 g=1").up(0, 0), 361);
        due("1: each by itself, below", x.up(0, 1), 400);
        due("1: one surely missed", slope(x, "ice 1 g=0;ice 99 g=1").up(0, 0), 0);
        due("1: one surely missed, below", x.up(0, 1), 1);
        due("1: slides at the last alone", slope(x, "ice 10 g=1").would(0, 2), 1);
        due("1: at the first alone", slope(x, "ice 1 g=0").would(0, 2), 1);
    }

    private static void fractions() {
        FortyGates x = new FortyGates();
        for (int i = 0; i < 7; i++) {
            x.gate(GATE, 0, 0);
        }
        x.skier(0);
        x.skier(1);
        // by 3, then always by 0: OVER is 19 everywhere
        slope(x, "ice 23 p=3;ice 26 p=0");
        due("2: all seven over", x.would(0, 26), 19);
        due("2: 1 by 20 to the 7th", x.up(0, 0), 1);
        due("2: 1 by 20 to the 7th, below", x.up(0, 1), 1280000000L);
        slope(x, "ice 99 g<7");
        due("24: both fall: even", x.wins(0, 1, 1, 0), 1);
        due("24: both fall: even, below", x.wins(0, 1, 1, 1), 1);
        due("24: neither wins", x.wins(0, 1, 0, 0), 0);
        due("24: neither wins, below", x.wins(0, 1, 0, 1), 1);
        for (int i = 0; i < 7; i++) {
            x.turn(i, 9);
        }
        x.skill(0, 1);
        // line 2 is quickest, by 3, 1, 0, 0, ..: OVER is 1 everywhere, so both stay up by 19 of 20 to the 7th
        slope(x, "ice 2 p=1;ice 3 p=0");
        due("24: first, by 20 to the 14th", x.wins(0, 1, 0, 0), 345149140137115879L);
        due("24: first, 20 to the 14th", x.wins(0, 1, 0, 1), 1638400000000000000L);
        due("24: even, by half of that", x.wins(0, 1, 1, 0), 474050859862884121L);
        due("24: even, half of that", x.wins(0, 1, 1, 1), 819200000000000000L);
    }

    private static void lines() {
        // skill 9, wax 99: each line takes 1, so the first row of all is the quickest
        FortyGates x = one(GATE, 0, 0, 9);
        for (int i = 1; i < 7; i++) {
            x.gate(GATE, 0, 0);
        }
        slope(x, "wax 99 g<9");
        for (int k = 0; k <= 6; k++) {
            due("14: of several the first, " + k, x.quickest(0, k), 0);
            due("15: of several the first, " + k, x.clean(0, k), 0);
            due("18: of several the first, " + k, x.sure(0, 999, k), 0);
            due("31: of several the first, " + k, x.fits(0, k), 0);
        }
        due("14: seven by 1", x.quickest(0, -1), 7);
        due("31: all lines", x.fits(0, -1), 2187);
        // to the last gate one comes by 9: 9 and 8, less 3 times the line, 7 and 4
        slope(x, "wax 99 g<9;ice 8 g=6");
        x.skill(0, 7);
        due("14: still the first", x.quickest(0, 6), 0);
        due("15: sliding by 0 or 1 at the last", x.clean(0, 6), 2);
        due("15: not ahead of it", x.clean(0, 5), 0);
        due("18: so it is surest, too", x.sure(0, 999, 6), 2);
        // a row is less by its first gate, whatever comes behind
        FortyGates two = one(GATE, 0, 5, 4);
        two.gate(GATE, 0, 0);
        due("14: one by 0", two.quickest(0, 0), 0);
        // line 0: 48, then by 3: 48; line 2: 58, then by 4: 44
        due("14: then by 0", two.quickest(0, 1), 0);
        due("14: together", two.quickest(0, -1), 96);
        FortyGates none = slope(one(GATE, 0, 9, 0), "ice 1 g=0");
        for (int k = -1; k <= 6; k++) {
            due("15: there is none, " + k, none.clean(0, k), -5);
        }
        due("15: OVER 3 by line 2", none.sure(0, 999, 0), 2);
        // turn 9, line 2: 3 and 9, less 6, less the skill, less 4: 0 by skill 2, 1 by skill 1
        due("15: OVER 0 is clean", one(GATE, 0, 9, 2).clean(0, -1), 58);
        due("15: OVER 1 is not", one(GATE, 0, 9, 1).clean(0, -1), -5);
    }

    private static void within() {
        // STEEP, turn 6, skill 2: 56 by 16 of 20, 52 by 19 of 20, 54 surely
        FortyGates x = one(STEEP, 0, 6, 2);
        int[][] rows = {{0, 0, 1, -5}, {51, 0, 1, -5}, {52, 19, 20, 1}, {53, 19, 20, 1}, {54, 1, 1, 2}, {999, 1, 1, 2}};
        for (int[] row : rows) {
            due("17: within " + row[0], x.surest(0, row[0], 0), row[1]);
            due("17: within " + row[0] + ", below", x.surest(0, row[0], 1), row[2]);
            due("18: within " + row[0], x.sure(0, row[0], 0), row[3]);
            for (int k = 1; k <= 6; k++) {
                due("18: there are fewer, " + k, x.sure(0, row[0], k), -5);
            }
        }
        // a line of which one surely falls is a line, too
        slope(x, "ice 99 g=0");
        due("17: surely falls", x.surest(0, 999, 0), 0);
        due("17: surely falls, below", x.surest(0, 999, 1), 1);
        due("18: surely falls, the first line", x.sure(0, 999, 0), 0);
        due("18: surely falls, and slowly", x.sure(0, 103, 0), -5);
        // 60 - 16 + 60 by line 0
        due("18: surely falls, just so", x.sure(0, 104, 0), 0);
        // by 3, 5, 7, 8, 9, 9, 9: 58, 50, 32, 28 and 72 are 240; ruts of 770
        FortyGates far = slope(one(GATE, 0, 0, 9), "rut 1;wax 11 g=0");
        for (int gate = 1; gate < 7; gate++) {
            far.gate(GATE, 0, 0);
        }
        for (int i = 0; i < 110; i++) {
            far.run(0);
        }
        due("14: 999", far.quickest(0, -1), 999);
        due("17: 999 is enough", far.surest(0, 999, 0), 1);
        due("18: 999 is enough", far.sure(0, 999, 0), 2);
        due("17: 998 is not", far.surest(0, 998, 0), 0);
        due("18: 998 is not", far.sure(0, 998, 0), -5);
        slope(far, "rut 1;wax 10 g=0");
        due("14: 1000", far.quickest(0, -1), 1000);
        due("17: 999 is not enough", far.surest(0, 999, 0), 0);
        due("17: 999 is not enough, below", far.surest(0, 999, 1), 1);
        due("18: 999 is not enough", far.sure(0, 999, 0), -5);
    }

    /** A line ahead may be surer than one behind, as a higher one brings more pace to the next gate. */
    private static void surerAhead() {
        FortyGates x = one(GATE, 0, 0, 9);
        x.gate(GATE, 0, 0);
        slope(x, "ice 20 g=1&p=5;wax 60 g=1&p=5");
        due("14: line 2 and pace 5 are quickest", x.quickest(0, 0), 2);
        // 40 less 60, and by line 0 36, by line 1 5 and 27, by line 2 10 and 18
        due("14: 58 and 8", x.quickest(0, -1), 66);
        due("17: surely by another one", x.surest(0, 999, 0), 1);
        due("18: the first of those", x.sure(0, 999, 0), 0);
        due("18: the first of those, second gate", x.sure(0, 999, 1), 0);
        due("17: surely, just so", x.surest(0, 92, 1), 1);
        due("18: surely, just so", x.sure(0, 92, 0), 0);
        // 92 by line 0 and 0; within 91 by line 2 alone: the surest there is 2, OVER 6
        due("17: within 91", x.surest(0, 91, 0), 7);
        due("17: within 91, below", x.surest(0, 91, 1), 10);
        due("18: within 91", x.sure(0, 91, 0), 2);
        due("18: within 91, second gate", x.sure(0, 91, 1), 2);
        // none is sure: by pace 4 and line 2 OVER is 1, by pace 5 it is 6 at least
        slope(x, "ice 16 g=1&p=4;ice 20 g=1&p=5");
        due("17: a less sure one is behind", x.surest(0, 999, 0), 19);
        due("17: a less sure one is behind, below", x.surest(0, 999, 1), 20);
        due("18: a less sure one is behind", x.sure(0, 999, 0), 0);
        due("18: a less sure one is behind, second gate", x.sure(0, 999, 1), 2);
    }

    private static void carry() {
        // GATE, turn 9, skill 9: by 3 line 0: 48; by 6 line 0: OVER 2: 36 and 6: 42, line 1: 41
        due("19: less by more pace", one(GATE, 0, 9, 9).carry(0, 0), 7);
        due("19: more by more pace", slope(one(GATE, 0, 0, 9), "ice 40 p=6").carry(0, 0), 48 - 96);
        due("19: no matter", slope(one(GATE, 0, 0, 9), "wax 99 g=0").carry(0, 0), 0);
        due("19: as the pace comes, not as it is steeper", slope(one(STEEP, 0, 0, 9), "wax 9 p=6;wax 5 p=3").carry(0, 0), 16);
        FortyGates x = one(GATE, 0, 0, 9);
        for (int i = 1; i < 7; i++) {
            x.gate(GATE, 0, 0);
        }
        due("19: from the last on", x.carry(0, 6), 12);
        // 48 and 44; 36 and 32
        due("19: from the last but one on", x.carry(0, 5), 24);
    }

    private static void startRutted() {
        FortyGates x = slope(one(GATE, 0, 0, 9), "rut 1");
        due("20: 0 runs", x.start(0, 0), 48);
        due("20: 99 runs", x.start(0, 99), 147);
        x.run(0);
        due("20: in place of those there are", x.start(0, 0), 48);
        due("20: still one", x.told(0), 1);
        // turn 6, skill 3: line 0 takes 54, line 1 53; wax 53 leaves 1 to both, till a rut tells
        int[][] rows = {{1, 53, 1}, {2, 53, 2}, {98, 53, 98}, {99, 53, 99}, {50, 53, 50}, {50, 54, -5}, {49, 54, 98}, {0, 53, -5}};
        for (int[] row : rows) {
            FortyGates y = slope(one(GATE, 0, 6, 3), "rut " + row[0] + ";wax " + row[1] + " g=0");
            due("21: rut " + row[0] + " wax " + row[1], y.rutted(0), row[2]);
            y.run(0);
            y.run(0);
            due("21: rut " + row[0] + " wax " + row[1] + ", whatever runs", y.rutted(0), row[2]);
            due("21: it changes nothing", y.told(0), 2);
        }
        due("21: no gate", slope(new FortyGates(), "rut 1").rutted(0), -1);
    }

    private static void wax() {
        due("22: no slope", one(GATE, 0, 6, 2).wax(0), 0);
        due("22: no wax", slope(one(GATE, 0, 6, 2), "ice 9 g=0;rut 1").wax(0), 0);
        due("22: wax 0", slope(one(GATE, 0, 6, 2), "wax 0 g=0").wax(0), 0);
        due("22: wax elsewhere", slope(one(GATE, 0, 6, 2), "wax 9 g=1").wax(0), 0);
        due("22: 52 of 53", slope(one(GATE, 0, 6, 2), "wax 52 g=0").wax(0), 52);
        due("22: no more than 52 of 53", slope(one(GATE, 0, 6, 2), "wax 53 g=0").wax(0), 52);
        due("22: ice stays", slope(one(GATE, 0, 6, 2), "wax 9 g=0;ice 20 g=0").wax(0), 9);
        due("22: ten of them", slope(one(GATE, 0, 6, 2), ("wax 1 g=0;".repeat(10)).substring(0, 99)).wax(0), 10);
    }

    private static FortyGates three(String text) {
        FortyGates x = new FortyGates();
        for (int i = 0; i < 3; i++) {
            x.gate(GATE, 0, 0);
        }
        x.skier(9);
        x.skier(8);
        x.skier(9);
        return slope(x, text);
    }

    private static void loses() {
        FortyGates like = three("rut 1");
        due("23: like ones: at none more", like.loses(0, 1, 0), -5);
        due("23: like ones: at none more, how much", like.loses(0, 1, 1), -5);
        due("23: at none more, but less", three("wax 5 s=9&g=1").loses(0, 1, 0), -5);
        due("23: how much, at none more", three("wax 5 s=9&g=1").loses(0, 1, 1), -5);
        due("23: 1 more", three("wax 1 s=8&g=2").loses(0, 1, 0), 2);
        due("23: 1 more, how much", three("wax 1 s=8&g=2").loses(0, 1, 1), 1);
        due("23: of several the first", three("wax 1 s=8&g>0").loses(0, 1, 0), 1);
        due("23: of several the first, all", three("wax 1 s=8&g<9").loses(0, 1, 0), 0);
        due("23: the most, not the first", three("wax 2 s=8;wax 1 s=8&g>1").loses(0, 1, 0), 2);
        due("23: the most, how much", three("wax 2 s=8;wax 1 s=8&g>1").loses(0, 1, 1), 3);
        due("23: the other way round", three("wax 2 s=8").loses(1, 0, 0), -5);
        due("23: like skills", three("wax 2 s=8").loses(0, 2, 0), -5);
    }

    /** How likely the first wins and how likely it is even, each as a fraction. */
    private static void wins(String text, int... dues) {
        FortyGates x = three(text);
        for (int i = 0; i < 4; i++) {
            due("24: '" + text + "' what " + i / 2 + " part " + i % 2, x.wins(0, 1, i / 2, i % 2), dues[i]);
        }
    }

    private static void wins() {
        wins("rut 1", 0, 1, 1, 1);
        wins("wax 1 s=9&g=0", 1, 1, 0, 1);
        wins("wax 1 s=8&g=0", 0, 1, 0, 1);
        // 20 of 20 fall: the other one by its time
        wins("ice 99 s=9&g=2", 0, 1, 0, 1);
        wins("ice 99 s=8&g=2", 1, 1, 0, 1);
        wins("ice 99 g=2", 0, 1, 1, 1);
        wins("ice 99 g=2;wax 1 s=9&g=0", 0, 1, 1, 1);
    }

    private static void risk() {
        FortyGates none = new FortyGates();
        none.skier(1);
        none.skier(2);
        int[][] rows = {{-99, 1}, {-1, 1}, {0, 1}, {1, 0}, {99, 0}};
        for (int[] row : rows) {
            due("25: no gates, d " + row[0], none.risk(0, 1, row[0], 0), row[1]);
            due("25: no gates, d " + row[0] + ", below", none.risk(0, 1, row[0], 1), 1);
        }
        // the other one takes 1, so by d 1 0 is left, and by d 2 less than 0
        FortyGates x = slope(one(STEEP, 0, 6, 2), "wax 99 s=9");
        x.skier(9);
        due("25: in 1", x.risk(0, 1, 0, 0), 0);
        due("25: in 0", x.risk(0, 1, 1, 0), 0);
        due("25: below 0", x.risk(0, 1, 2, 0), 0);
        due("25: below 0, below", x.risk(0, 1, 2, 1), 1);
        due("25: in 51", x.risk(0, 1, -50, 0), 0);
        due("25: in 52", x.risk(0, 1, -51, 0), 19);
        due("25: in 52, below", x.risk(0, 1, -51, 1), 20);
        due("25: in 53", x.risk(0, 1, -52, 0), 19);
        due("25: in 54", x.risk(0, 1, -53, 0), 1);
        due("25: in 100", x.risk(0, 1, -99, 0), 1);
        // 99 more than 1: a line of 100 is within, a line of 101 not
        slope(x, "wax 99 s=9;ice 17 s=2;rut 1");
        // line 0: 20: 104; line 1: 18: 49 and 54: 103; line 2: 15: 54 and 45: 99
        due("25: by much ice", x.risk(0, 1, -99, 0), 1);
        due("25: by much ice, below", x.risk(0, 1, -99, 1), 4);
        due("25: within 99", x.risk(0, 1, -98, 1), 4);
        due("25: within 98", x.risk(0, 1, -97, 1), 1);
        due("25: not within 98", x.risk(0, 1, -97, 0), 0);
    }

    private static void set() {
        FortyGates x = new FortyGates();
        for (int i = 0; i < 7; i++) {
            x.gate(i == 4 ? OPEN : GATE, 0, 0);
        }
        x.skier(9);
        x.skier(8);
        // behind an icy gate one comes by 0, so to 6 by 4 alone if it is next to 4
        slope(x, "ice 99 !g=4&!g=6;wax 30 g=6&p=4&s=9;wax 9 g=5&p>0&s=9");
        due("26: the last pair", x.set(0, 1), 56);
        due("26: changes nothing", x.set(0, 1), 56);
        // with 4 first of all, one comes to 5 by 0, and to 6 not by 4
        due("26: the other one loses its wax", x.set(1, 0), 4);
        slope(x, "rut 1");
        due("26: like ones", x.set(0, 1), -5);
        // the second one loses what it has now
        FortyGates y = new FortyGates();
        y.gate(GATE, 0, 0);
        y.gate(GATE, 0, 0);
        y.skier(9);
        y.skier(8);
        due("26: the second one loses", slope(y, "wax 9 s=8&g=0&p=3").set(0, 1), 1);
        due("26: the first one would lose", y.set(1, 0), -5);
        due("26: 1 less is less", slope(y, "wax 1 s=8&g=0&p=3").set(0, 1), 1);
        due("26: as much as now is not", slope(y, "wax 1 s=8&g=0").set(0, 1), -5);
    }

    private static void setFewGates() {
        FortyGates x = new FortyGates();
        x.skier(9);
        x.skier(1);
        due("26: no gates", x.set(0, 1), -5);
        x.gate(TIGHT, 0, 9);
        due("26: one gate", x.set(0, 1), -5);
        x.gate(FLAT, 0, 0);
        int pair = x.set(0, 1);
        int back = x.set(1, 0);
        due("26: two gates, one way at most", pair == 1 && back == 1 ? 1 : 0, 0);
    }

    private static void rank() {
        FortyGates x = new FortyGates();
        for (int i = 0; i < 5; i++) {
            x.skier(4);
            for (int k = 0; k <= i; k++) {
                due("27: like ones by their numbers", x.rank(k), k);
            }
            due("27: no more", x.rank(i + 1), -1);
        }
        x.gate(GATE, 0, 0);
        x.skill(1, 5);
        x.skill(4, 5);
        slope(x, "wax 1 s=5");
        int[] places = {1, 4, 0, 2, 3};
        for (int k = 0; k < 5; k++) {
            due("27: the quicker ones ahead", x.rank(k), places[k]);
        }
        slope(x, "wax 1 s=4");
        int[] turned = {0, 2, 3, 1, 4};
        for (int k = 0; k < 5; k++) {
            due("27: the slower ones behind", x.rank(k), turned[k]);
        }
    }

    private static void mean() {
        FortyGates x = new FortyGates();
        due("28: nobody", x.mean(0), FortyGates.NO);
        due("28: nobody, below", x.mean(1), FortyGates.NO);
        x.skier(9);
        due("28: no gates", x.mean(0), 0);
        due("28: no gates, below", x.mean(1), 1);
        x.gate(GATE, 0, 0);
        due("28: one", x.mean(0), 48);
        due("28: one, below", x.mean(1), 1);
        slope(x, "wax 1 s=8");
        x.skier(8);
        due("28: two", x.mean(0), 95);
        due("28: two, below", x.mean(1), 2);
        x.skier(8);
        due("28: three", x.mean(0), 142);
        due("28: three, below", x.mean(1), 3);
        x.skier(8);
        due("28: four", x.mean(0), 189);
        due("28: four, below", x.mean(1), 4);
        x.skill(0, 8);
        due("28: four like ones", x.mean(0), 47);
        due("28: four like ones, below", x.mean(1), 1);
        x.skill(0, 9);
        x.skier(7);
        due("28: five", x.mean(0), 237);
        due("28: five, below", x.mean(1), 5);
        x.skill(3, 9);
        x.skill(2, 9);
        x.skill(1, 9);
        due("28: five like ones", x.mean(0), 48);
        due("28: five like ones, below", x.mean(1), 1);
    }

    private static void slowest() {
        FortyGates x = three("wax 99 g<9");
        due("29: each takes 1: the first", x.slowest(0), 0);
        slope(x, "wax 99 g<9;ice 99 g=2");
        due("29: the last", x.slowest(0), 2);
        slope(x, "ice 99 g>0");
        // behind the first gate by 4, behind the second by 0: 41 and 24, 60 and 57
        due("29: more by less pace", x.slowest(0), 2);
        FortyGates none = new FortyGates();
        none.skier(0);
        due("29: there are none", none.slowest(0), -5);
    }

    private static void seen() {
        // by line 0 48, by 1 53, by 2 58
        FortyGates x = one(GATE, 0, 0, 9);
        due("31: nothing seen", x.fits(0, -1), 3);
        int[][] rows = {{47, 0, -5}, {48, 1, 0}, {49, 0, -5}, {53, 1, 1}, {57, 0, -5}, {58, 1, 2}, {59, 0, -5}, {0, 0, -5}, {9999, 0, -5}};
        for (int[] row : rows) {
            x.see(-1, 0);
            due("30: seen", x.see(0, row[0]), 1);
            due("31: lines for " + row[0], x.fits(0, -1), row[1]);
            due("31: the first for " + row[0], x.fits(0, 0), row[2]);
            due("31: there are fewer for " + row[0], x.fits(0, 1), -5);
            due("32: who for " + row[0], x.who(), row[1]);
        }
        x.see(-1, 0);
        for (int i = 1; i <= 7; i++) {
            due("30: the same seven times", x.see(0, 53), i);
        }
        due("31: seven times", x.fits(0, -1), 1);
        x.see(-1, 0);
        for (int i = 1; i <= 6; i++) {
            x.see(0, 53);
        }
        x.see(0, 54);
        due("31: the seventh is not so", x.fits(0, -1), 0);
        int[][] otherwise = {{53, 58}, {58, 53}, {53, 58, 53}, {58, 53, 58}, {53, 58, 58}, {58, 53, 53}, {53, 0}, {0, 53}};
        for (int[] times : otherwise) {
            x.see(-1, 0);
            for (int time : times) {
                x.see(0, time);
            }
            due("31: of one gate twice, otherwise", x.fits(0, -1), 0);
            due("31: no line for both", x.fits(0, 0), -5);
            due("32: nobody for both", x.who(), 0);
        }
        x.see(-1, 0);
        x.gate(GATE, 0, 0);
        x.see(0, 53);
        // by 1 behind the first, pace 4: 44, 49, 54
        due("31: the second one is free", x.fits(0, -1), 3);
        due("31: the first of them", x.fits(0, 0), 1);
        due("31: the first of them, second gate", x.fits(0, 1), 0);
        x.see(1, 53 + 54);
        due("31: what both took together", x.fits(0, 1), 2);
        due("31: one line", x.fits(0, -1), 1);
        x.see(-1, 0);
        // 48 and 54; 53 and 49; line 2 and pace 5: 58 and 40, 45, 50
        x.see(1, 102);
        due("31: together alone", x.fits(0, -1), 2);
        due("31: of both the first", x.fits(0, 0), 0);
        due("31: of both the first, second gate", x.fits(0, 1), 2);
    }

    /** To the last of seven gates one comes by 9, whatever the line: it takes 24, 29 or 34, and each other one 1. */
    private static void seenOfSeven() {
        FortyGates x = one(GATE, 0, 0, 9);
        for (int i = 1; i < 7; i++) {
            x.gate(GATE, 0, 0);
        }
        slope(x, "wax 99 g<6");
        for (int c = 0; c <= 2; c++) {
            x.see(-1, 0);
            x.see(6, 6 + 24 + 5 * c);
            due("31: lines that end so", x.fits(0, -1), 729);
            for (int k = 0; k <= 6; k++) {
                due("31: the first of them at " + k, x.fits(0, k), k == 6 ? c : 0);
            }
            x.see(5, 6);
            due("31: and all so at the last but one", x.fits(0, -1), 729);
            x.see(5, 7);
            due("31: and none", x.fits(0, -1), 0);
        }
        // now each line of the first is told by itself, as well as of the last
        slope(x, "wax 99 g<6&g>0");
        x.see(-1, 0);
        x.see(0, 58);
        x.see(6, 58 + 5 + 29);
        due("31: of both ends", x.fits(0, -1), 243);
        due("31: the first one's", x.fits(0, 0), 2);
        due("31: the last one's", x.fits(0, 6), 1);
        due("31: between them", x.fits(0, 3), 0);
    }

    private static void who() {
        FortyGates x = new FortyGates();
        x.gate(GATE, 0, 0);
        due("32: nobody there", x.who(), 0);
        for (int i = 0; i < 5; i++) {
            x.skier(i + 5);
            due("32: nothing seen: everybody", x.who(), (2 << i) - 1);
        }
        slope(x, "wax 7 s=9|s=5");
        x.see(0, 41);
        due("32: the first and the last", x.who(), 17);
        x.see(0, 48);
        due("32: told otherwise: nobody", x.who(), 0);
        x.see(-1, 0);
        x.see(0, 48);
        due("32: the others", x.who(), 14);
    }

    private static void booked() {
        FortyGates x = one(GATE, 0, 0, 9);
        int[][] rows = {{0, 0}, {47, 0}, {48, -5}, {49, 0}, {9999, 0}};
        for (int[] row : rows) {
            x.book(-1, 0);
            x.book(0, row[0]);
            due("34: booked " + row[0], x.looked(), row[1]);
        }
        x.book(-1, 0);
        for (int i = 1; i <= 7; i++) {
            due("33: so", x.book(0, 48), i);
            due("34: all so", x.looked(), -5);
        }
        x.book(0, 47);
        due("34: the eighth is not so", x.looked(), 7);
        x.book(-1, 0);
        x.book(0, 47);
        x.book(0, 47);
        due("34: of several the first", x.looked(), 0);
        FortyGates none = new FortyGates();
        none.skier(0);
        none.book(0, 0);
        due("34: no gates take 0", none.looked(), -5);
        none.book(0, 1);
        due("34: and no more", none.looked(), 1);
    }

    private static void act(int kind, int v, int number, int act, int x, int due) {
        FortyGates hill = new FortyGates();
        for (int i = 0; i < number; i++) {
            hill.gate(GATE, 9, 9);
        }
        hill.gate(kind, v, 9);
        due("35: kind " + kind + " v " + v + " number " + number + " act " + act + " x " + x, hill.act(number, act, x), due);
    }

    /** Each body, where its sum or product is more than an int holds. */
    private static void acts() {
        act(GATE, 0, 0, 0, MAX, MAX);
        act(GATE, 0, 1, 0, MAX, MIN);
        act(GATE, 0, 6, 0, MAX, MIN + 5);
        act(GATE, 9, 0, 1, MIN + 9, MIN);
        act(GATE, 1, 0, 1, MIN, MAX);
        act(GATE, 9, 0, 1, MIN, MAX - 8);
        act(GATE, 9, 6, 1, MAX, MAX - 3);
        act(GATE, 0, 0, 2, MAX, -2);
        act(GATE, 0, 0, 2, MIN, 0);
        act(GATE, 0, 0, 2, 1 << 30, MIN);
        act(GATE, 0, 0, 2, (1 << 30) - 1, MAX - 1);
        act(OPEN, 0, 0, 0, 715827882, MAX - 1);
        act(OPEN, 0, 0, 0, 715827883, MIN + 1);
        act(OPEN, 0, 0, 0, MAX, MAX - 2);
        act(OPEN, 0, 0, 0, MIN, MIN);
        act(OPEN, 0, 1, 0, 715827883, MIN + 2);
        act(TIGHT, 0, 0, 1, MIN, MIN);
        act(TIGHT, 0, 0, 1, MAX, -MAX);
        act(TIGHT, 1, 0, 1, MIN, -MAX);
        act(STEEP, 0, 0, 2, MAX, -7);
        act(STEEP, 0, 0, 2, MIN, 7);
        act(STEEP, 0, 0, 2, 1 << 30, MIN + 7);
        // 3 times x less 1, twice; and turns(2) is 6 and its number
        act(FLAT, 0, 0, 2, MIN, 0);
        act(FLAT, 0, 1, 2, MIN, 3);
        act(FLAT, 0, 0, 2, MAX, -6);
        act(FLAT, 9, 0, 2, 0, -18);
        act(BLIND, 0, 3, 0, MAX, (MIN + 2) ^ 3);
        act(BLIND, 0, 6, 0, -7, -7);
        act(TOLD, 9, 0, 1, MAX, MAX);
        act(TOLD, 9, 1, 1, MAX, MIN);
        act(TOLD, 9, 0, 2, MAX, -2 ^ 7);
    }

    private static void actsOfSeven() {
        FortyGates x = new FortyGates();
        due("36: no act yet", x.trace(0), -1);
        due("40: no body yet", x.count(6), 0);
        for (int i = 0; i < 7; i++) {
            x.gate(FLAT, 9, 9);
        }
        // 41; tells above: 3; slides: 2; turns: 11, 1; and turns(2): 11, 1
        due("35: the last gate", x.act(6, 2, 1), 2 * (6 - 9) + 6 + 6);
        int[] bodies = {41, 3, 2, 11, 1, 11, 1};
        for (int i = 0; i < 7; i++) {
            due("36: body " + i, x.trace(i), bodies[i]);
        }
        due("36: no eighth", x.trace(7), -1);
        due("40: seven", x.count(6), 7);
        x.act(0, 0, 1);
        due("40: of the latest act alone", x.count(6), 2);
        due("36: its first", x.trace(0), 11);
        due("36: no third", x.trace(2), -1);
        x.trace(2);
        x.act(7, 0, 1);
        due("40: none by a refused one", x.count(6), 0);
        due("36: none by a refused one", x.trace(0), -1);
    }

    /** What is full has room again behind an undo, and the image stays. */
    private static void fullAndUndone() {
        FortyGates x = new FortyGates();
        x.gate(GATE, 0, 0);
        x.skier(9);
        slope(x, "rut 1");
        x.see(0, 48);
        x.book(0, 48);
        x.feed('r');
        due("38: an image", x.image(), 1);
        for (int again = 0; again < 2; again++) {
            for (int i = 1; i < 7; i++) {
                due("39: gates", x.gate(GATE, 0, 0), i);
                due("39: seen", x.see(0, 48), i + 1);
                due("39: booked", x.book(0, 48), i + 1);
            }
            due("39: gates are full", x.gate(GATE, 0, 0), -4);
            due("39: seen are full", x.see(0, 48), -4);
            due("39: booked", x.book(0, 48), 8);
            due("39: the book is full", x.book(0, 48), -4);
            for (int i = 1; i < 5; i++) {
                due("39: skiers", x.skier(0), i);
                Scene.feed(x, i == 1 ? "ut 2" : "rut 2");
                due("39: slopes", x.slope(), i);
            }
            due("39: skiers are full", x.skier(0), -4);
            due("39: slopes are full", x.slope(), -4);
            due("39: undone", x.undo(), 1);
            int[] counts = {1, 1, 1, 1, 1, 1};
            for (int what = 0; what < 6; what++) {
                due("39: count " + what, x.count(what), counts[what]);
            }
        }
        // the image is of its own: what changes behind it is not in it, and undone twice is once
        x.undo();
        due("39: undone twice", x.undo(), 1);
        due("39: one gate of 48", x.quickest(0, -1), 48);
        due("39: the newest image alone", x.gate(GATE, 0, 0), 1);
        x.image();
        x.gate(GATE, 0, 0);
        due("39: to the newest", x.undo(), 2);
    }

    /** The last that there is room for is in an image, too. */
    private static void lastUndone() {
        FortyGates x = new FortyGates();
        for (int i = 0; i < 5; i++) {
            x.skier(i + 1);
        }
        for (int i = 0; i < 7; i++) {
            x.gate(TOLD, 0, i + 1);
            x.row(i, 0, i + 2);
            x.row(i, 3, i + 1);
            x.plan(i, i % 3);
            x.see(0, i);
        }
        for (int i = 0; i < 8; i++) {
            x.book(4, 0);
        }
        Scene.feed(x, Scene.LONGEST);
        x.image();
        due("3: the tape is a slope", x.slope(), 0);
        Scene.feed(x, "x".repeat(100));
        for (int i = 0; i < 5; i++) {
            x.skill(i, 0);
        }
        for (int i = 0; i < 7; i++) {
            x.turn(i, 0);
            x.row(i, 0, 0);
            x.row(i, 3, 0);
            x.plan(i, 2 - i % 3);
        }
        due("39: undone", x.undo(), 7);
        for (int i = 0; i < 5; i++) {
            due("39: skill " + i, x.skill(i, -1), i + 1);
        }
        for (int i = 0; i < 7; i++) {
            due("39: turn " + i, x.of(i, 2), i + 1);
            due("39: line " + i, x.of(i, 3), i % 3);
            due("39: first of row " + i, x.row(i, 0, 0), i + 2);
            due("39: last of row " + i, x.row(i, 3, 0), i + 1);
        }
        due("39: the tape is full", x.feed('x'), -4);
        due("39: and all of it a slope", x.slope(), 0);
        due("39: the eighth row", x.book(0, 0), -4);
        due("39: the seventh seen", x.see(0, 0), -4);
    }

    /** What a gate took that is gone by an undo is nowhere in what is asked then, by whatever pace one comes there. */
    private static void paceUndone() {
        for (int turn = 0; turn <= 9; turn++) {
            FortyGates x = one(OPEN, 0, 0, 9);
            x.gate(OPEN, 0, turn);
            x.skier(0);
            int least = x.quickest(0, -1);
            int other = x.quickest(1, -1);
            int surest = x.sure(1, other, 1);
            int set = x.set(1, 0);
            // by 3, then by 6: 48 and 36 (and 3 times what is above 7 of the turn, or 5 and none of that)
            int slower = turn == 9 ? 5 : turn == 8 ? 3 : 0;
            due("14: two gates", least, 84 + slower);
            due("19: by 3 and by 6", x.carry(0, 1), 48 - 36 - slower);
            x.image();
            x.gate(FLAT, 0, 9);
            x.quickest(0, -1);
            x.quickest(1, -1);
            x.set(0, 1);
            x.undo();
            due("39: quickest of two gates again", x.quickest(0, -1), least);
            due("39: the other one's", x.quickest(1, -1), other);
            due("39: its surest", x.sure(1, other, 1), surest);
            due("39: set", x.set(1, 0), set);
            due("39: who is first", x.rank(0), 0);
            due("39: what pace is worth", x.carry(0, 1), 48 - 36 - slower);
        }
    }

    /** Of what was seen and booked an image has the gates and the skiers, too. */
    private static void noted() {
        FortyGates x = one(GATE, 0, 0, 9);
        x.gate(GATE, 0, 0);
        x.skier(8);
        slope(x, "wax 1 s=8&g=0");
        x.see(1, 102);
        x.book(1, 91);
        due("34: so", x.looked(), -5);
        due("31: so", x.fits(0, -1), 2);
        x.image();
        x.see(-1, 0);
        x.see(0, 48);
        x.book(-1, 0);
        x.book(0, 92);
        due("34: so, too", x.looked(), -5);
        due("31: so, too", x.fits(0, -1), 3);
        x.undo();
        due("34: so again", x.looked(), -5);
        due("31: so again", x.fits(0, -1), 2);
    }

    /** Five slopes of 100 bytes: of each the newest one alone holds, whole. */
    private static void longSlopes() {
        FortyGates x = one(GATE, 0, 0, 9);
        for (int i = 0; i < 5; i++) {
            String text = "wax " + (i + 1) + " " + "g<1&".repeat(20) + "g<10&g<11&g<12";
            due("3: 100 bytes", text.length(), 100);
            due("3: slope " + i, Scene.slope(x, text), i);
            due("3: it holds", x.quickest(0, -1), 47 - i);
        }
        FortyGates y = one(GATE, 0, 0, 9);
        for (int i = 0; i < 5; i++) {
            String text = "wax " + (i + 1) + " " + "g>1|".repeat(20) + "g>10|g>11|g<12";
            due("3: slope " + i, Scene.slope(y, text), i);
            due("3: it holds", y.quickest(0, -1), 47 - i);
        }
        FortyGates z = slope(one(GATE, 0, 0, 9), "wax 1 g=0;wax 1 k=0;wax 1 t=0;wax 1 p=3;wax 1 r=0;wax 1 s=9;wax 1 g<1;wax 1 p<4;wax 1 p>2");
        due("1: nine of ten clauses", z.quickest(0, -1), 39);
        z = slope(z, "rut 1;fog 1;wax 1 t=0;wax 1 p=3;wax 1 r=0;wax 1 s=9;wax 1 g<1;wax 1 p<4;wax 1 p>2;wax 1 k=0");
        due("1: the last of ten clauses is one, too", z.quickest(0, -1), 40);
    }

    /** Whether a condition holds at gate 0, by pace 3, no runs and skill 9: g=0 does, and g=1 does not. */
    private static void holds(boolean due, String... conditions) {
        for (String condition : conditions) {
            due("1: " + condition, slope(one(GATE, 0, 0, 9), "wax 9 " + condition).quickest(0, -1), due ? 39 : 48);
        }
    }

    private static void conditions() {
        holds(true, "g=0", "!g=1", "!!g=0", "!!!!g=0", "!!!!!g=1", "(g=0)", "(((((g=0)))))", "!(g=1)", "!(!(g=0))");
        holds(false, "g=1", "!g=0", "!!g=1", "!!!!g=1", "!!!!!g=0", "(g=1)", "(((((g=1)))))", "!(g=0)", "!(!(g=1))");
        // & ahead of |, whatever comes first
        holds(true, "g=0|g=1&g=1", "g=1&g=1|g=0", "g=0|g=0&g=1", "g=1&g=0|g=0", "g=1|g=0&g=0", "g=0&g=0|g=1");
        holds(false, "g=1|g=1&g=0", "g=0&g=1|g=1", "g=1|g=0&g=1", "g=1&g=0|g=1", "g=1|g=1|g=1", "g=0&g=0&g=1");
        // unless ( and ) stand there
        holds(false, "(g=0|g=1)&g=1", "g=1&(g=1|g=0)", "(g=0|g=0)&g=1", "g=1&(g=0|g=0)");
        holds(true, "(g=0|g=1)&g=0", "g=0&(g=1|g=0)", "(g=1|g=0)&(g=0|g=1)");
        // what is in ( and ) is worked out by itself
        holds(true, "g=0|(g=1)", "g=1|(g=0)", "(g=0)|(g=1)", "(g=1)|(g=0)", "g=0&(g=0)", "(g=0)&g=0", "g=1|(g=1|(g=0))");
        holds(false, "g=0&(g=1)", "g=1&(g=0)", "(g=0)&(g=1)", "(g=1)&(g=0)", "g=1|(g=1)", "(g=1)|g=1", "g=0&(g=0&(g=1))");
        holds(true, "g=0|(g=1&(g=1|(g=1&(g=1|(g=1)))))", "g=1|(g=0&(g=1|(g=0&(g=1|(g=0)))))");
        holds(false, "g=1|(g=0&(g=1|(g=0&(g=1|(g=1)))))", "g=0&(g=0|(g=0))&g=1");
        // a ! is for its F alone
        holds(true, "!g=0|g=0", "!g=1&g=0", "g=0&!g=1", "g=1|!g=1", "!(g=0&g=1)", "!(g=1|g=1)", "!g=1|g=1", "!(g=1)&g=0");
        holds(false, "!g=1&g=1", "!g=0&g=0", "g=0&!g=0", "g=1|!g=0", "!(g=0|g=1)", "!(g=0&g=0)", "!g=0|g=1", "!(g=1)&g=1");
        // each sign at the number ahead of it, at it and behind it
        holds(true, "p>2", "p=3", "p<4", "s>8", "s=9", "s<10", "t=0", "t<1", "k<1", "r<1", "r=0", "g<99");
        holds(false, "p>3", "p=2", "p=4", "p<3", "s>9", "s=8", "s=10", "s<9", "t>0", "t<0", "t=1", "k>0", "r>0", "r=10", "g>99");
    }

    private static void noGates() {
        FortyGates x = new FortyGates();
        x.skier(0);
        x.skier(9);
        slope(x, "rut 1;fog 9;ice 99 g=0");
        for (int n = 0; n < 2; n++) {
            due("1: nothing takes nothing", x.run(0), 0);
            due("13: time", x.would(0, 0), 0);
            due("13: pace", x.would(0, 1), 3);
            due("13: slides", x.would(0, 2), 0);
            due("14: quickest", x.quickest(0, -1), 0);
            due("14: there are fewer", x.quickest(0, 0), -5);
            due("15: clean", x.clean(0, -1), 0);
            due("15: there are fewer", x.clean(0, 0), -5);
            due("16: up", x.up(0, 0), 1);
            due("16: up, below", x.up(0, 1), 1);
            due("17: surest", x.surest(0, 0, 0), 1);
            due("17: surest, below", x.surest(0, 0, 1), 1);
            due("18: there are fewer", x.sure(0, 0, 0), -5);
            due("19: no gate", x.carry(0, 0), -10001);
            due("20: start", x.start(0, 99), 0);
            due("21: rutted", x.rutted(0), -5);
            due("22: wax", x.wax(0), 0);
            due("23: loses", x.loses(0, 1, 0), -5);
            due("24: wins", x.wins(0, 1, 0, 0), 0);
            due("24: wins, below", x.wins(0, 1, 0, 1), 1);
            due("24: even", x.wins(0, 1, 1, 0), 1);
            due("24: even, below", x.wins(0, 1, 1, 1), 1);
            due("26: set", x.set(0, 1), -5);
            due("27: rank", x.rank(1), 1);
            due("29: slowest", x.slowest(0), -5);
            due("31: one line, of no gates", x.fits(0, -1), 1);
            due("31: there are fewer", x.fits(0, 0), -5);
            due("32: who", x.who(), 3);
            due("34: looked", x.looked(), -5);
        }
        due("11: runs of no gates are runs", x.told(0), 2);
    }
}
