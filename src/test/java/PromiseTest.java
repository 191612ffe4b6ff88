/** For each promise of the document calls whose answers were worked out by hand. */
public final class PromiseTest {
    private static final Check CHECK = new Check();
    private static final long NO = FortyGates.NO;
    private static final int GATE = 0, OPEN = 1, TIGHT = 2, STEEP = 3, FLAT = 4, BLIND = 5, TOLD = 6;
    private static final int MAX = Integer.MAX_VALUE, MIN = Integer.MIN_VALUE;

    private PromiseTest() {
    }

    public static void main(String[] args) {
        constants();
        newObject();
        feed();
        slopeReads();
        slopeHolds();
        gateOf();
        turnPlanRow();
        skierSkill();
        told();
        run();
        wouldOfKinds();
        wouldOfClauses();
        wouldOfAll();
        tests();
        quickest();
        clean();
        up();
        surestSure();
        carry();
        start();
        rutted();
        wax();
        loses();
        wins();
        risk();
        set();
        rankMean();
        slowest();
        see();
        fitsWho();
        bookLooked();
        act();
        trace();
        as();
        imageUndo();
        count();
        CHECK.end();
    }

    private static void due(String what, long got, long want) {
        CHECK.due(what, got, want);
    }

    private static int slope(FortyGates x, String text) {
        for (int i = 0; i < text.length(); i++) {
            x.feed(text.charAt(i));
        }
        return x.slope();
    }

    /** One gate (with v 3) and one skier. */
    private static FortyGates one(int kind, int turn, int skill) {
        FortyGates x = new FortyGates();
        x.gate(kind, 3, turn);
        x.skier(skill);
        return x;
    }

    /** A plain gate, and a tight one; skiers of skill 9 (48 and 49) and 0 (48 and 69, sliding by 5). */
    private static FortyGates two() {
        FortyGates x = new FortyGates();
        x.gate(GATE, 0, 0);
        x.gate(TIGHT, 0, 9);
        x.skier(9);
        x.skier(0);
        return x;
    }

    private static void constants() {
        due("NONE", FortyGates.NONE, -1);
        due("BAD", FortyGates.BAD, -2);
        due("STATE", FortyGates.STATE, -3);
        due("FULL", FortyGates.FULL, -4);
        due("NO", FortyGates.NO, Long.MIN_VALUE);
    }

    private static void newObject() {
        FortyGates x = new FortyGates();
        for (int what = 0; what <= 6; what++) {
            due("1: count", x.count(what), 0);
        }
        for (int what = 0; what <= 2; what++) {
            due("1: told", x.told(what), 0);
        }
        due("1: undo", x.undo(), -3);
        due("1: of", x.of(0, 0), -1);
        due("1: skill", x.skill(0, -1), -1);
        due("1: looked", x.looked(), -5);
        due("1: who", x.who(), 0);
        due("1: mean", x.mean(0), NO);
        x.skier(3);
        due("1: no gates, quickest", x.quickest(0, -1), 0);
        due("1: no gates, quickest 0", x.quickest(0, 0), -5);
        due("1: no gates, clean", x.clean(0, -1), 0);
        due("1: no gates, would 1", x.would(0, 1), 3);
        due("1: no gates, would 2", x.would(0, 2), 0);
        due("1: no gates, would 10", x.would(0, 10), -1);
        due("1: no gates, fits", x.fits(0, -1), 1);
        due("1: no gates, fits 0", x.fits(0, 0), -5);
        due("1: no gates, sure", x.sure(0, 0, 0), -5);
        due("1: no gates, surest", x.surest(0, 0, 0), 1);
        due("1: no gates, who", x.who(), 1);
        due("1: no gates, slowest", x.slowest(0), -5);
        due("1: no gates, mean", x.mean(1), 1);
    }

    private static void feed() {
        FortyGates x = new FortyGates();
        due("2: feed 0", x.feed(0), 1);
        due("2: feed 127", x.feed(127), 2);
        due("2: feed -1", x.feed(-1), -2);
        due("2: feed 128", x.feed(128), -2);
        due("2: feed MIN", x.feed(MIN), -2);
        due("2: refused ones are not kept", x.count(5), 2);
        for (int i = 3; i <= 100; i++) {
            due("2: feed to 100", x.feed(';'), i);
        }
        due("2: feed to 101", x.feed(';'), -4);
        due("2: BAD ahead of FULL", x.feed(128), -2);
        due("2: still 100", x.count(5), 100);
        due("2: slope empties", x.slope(), -10);
        due("2: feed anew", x.feed('r'), 1);
    }

    private static void reads(String text, int due) {
        FortyGates x = new FortyGates();
        due("3: slope of '" + text + "'", slope(x, text), due);
        due("3: tape is empty behind '" + text + "'", x.count(5), 0);
        due("3: slopes behind '" + text + "'", x.count(2), due == 0 ? 1 : 0);
    }

    private static void slopeReads() {
        String[] good = {"rut 1", "fog 99;rut 0", "ice 1 g=1", "wax 0 s>99", "ice 10 k<0&t>1|p=2&!r=3|(s=4)",
            "ice 1 (((((g=1)))))", "ice 1 !!!!!g=1", "ice 1 !(!(!g=1))", "ice 1 !!!g=1&!!!!!g=2",
            "ice 1 (((((g=1)))))&(((((g=1)))))", "ice 1 !((((g=1|g=2))))|!!!!(g=2)",
            "rut 1;rut 1;rut 1;rut 1;rut 1;rut 1;rut 1;rut 1;rut 1;rut 1"};
        for (String text : good) {
            reads(text, 0);
        }
        String[] faulty = {"", "x", ";", "Rut 1", " rut 1", "rux", "rut", "rut ", "rut x", "rut 01", "rut 100", "rut 5 ",
            "rut 5;", "rut 5;x", "rut 5;;", "ice  1 g=1", "ice 1g=1", "ice 1", "ice 1 ", "ice 1 g", "ice 1 g=",
            "ice 1 x=1", "ice 1 g!1", "ice 1 g=1 ", "ice 1 g=1x", "ice 1 g=100", "ice 1 g=00", "ice 1 (g=1",
            "ice 1 (g=1))", "ice 1 ()", "ice 1 (g=1;", "ice 1 ((((((g=1", "ice 1 !!!!!!g=1", "ice 1 !(!(!(g=1)))",
            "ice 1 !!(((!g=1)))", "ice 1 g=1||g=2", "ice 1 g=1&|", "ice 1 g=1!", "ice 1 g<=1", "fog 7\u0000",
            "wax 1", "wa", "iced", "fog 123",
            "rut 1;rut 1;rut 1;rut 1;rut 1;rut 1;rut 1;rut 1;rut 1;rut 1;",
            "rut 1;rut 1;rut 1;rut 1;rut 1;rut 1;rut 1;rut 1;rut 1;rut 1;rut 1"};
        int[] places = {0, 0, 0, 0, 0, 2, 3, 4, 4, 5, 6, 5,
            6, 6, 6, 4, 5, 5, 6, 7, 8,
            6, 7, 9, 9, 10, 9, 10,
            11, 7, 10, 11, 11, 11,
            11, 10, 10, 9, 8, 5,
            5, 2, 3, 6,
            59,
            59};
        for (int i = 0; i < faulty.length; i++) {
            reads(faulty[i], -10 - places[i]);
        }
    }

    private static void slopeHolds() {
        FortyGates x = new FortyGates();
        due("3: first", slope(x, "rut 7;fog 3;rut 5;fog 0"), 0);
        due("3: the last rut", x.told(1), 5);
        due("3: the last fog", x.told(2), 0);
        due("3: faulty", slope(x, "rut 9;fog x"), -20);
        due("3: the old one holds", x.told(1), 5);
        due("3: second", slope(x, "fog 8"), 1);
        due("3: the newest one alone holds", x.told(1), 0);
        due("3: its fog", x.told(2), 8);
        due("3: third", slope(x, "rut 1"), 2);
        due("3: no fog", x.told(2), 0);
        due("3: fourth", slope(x, "rut 2"), 3);
        due("3: fifth", slope(x, "rut 3"), 4);
        due("3: sixth", slope(x, "rut 4"), -4);
        due("3: the tape stays", x.count(5), 5);
        due("3: FULL ahead of a FAULT", slope(x, "x"), -4);
        due("3: the tape stays then, too", x.count(5), 6);
        due("3: the fifth holds", x.told(1), 3);
    }

    private static void gateOf() {
        FortyGates x = new FortyGates();
        due("4: kind 7", x.gate(7, 10, 10), -1);
        due("4: kind -1", x.gate(-1, 0, 0), -1);
        due("4: v 10", x.gate(0, 10, 0), -2);
        due("4: v -1", x.gate(0, -1, 0), -2);
        due("4: turn 10", x.gate(0, 0, 10), -2);
        due("4: turn -1", x.gate(0, 0, -1), -2);
        for (int i = 0; i < 7; i++) {
            due("4: gate", x.gate(i, 9 - i, i + 1), i);
        }
        due("4: eighth", x.gate(0, 0, 0), -4);
        due("4: NONE ahead of FULL", x.gate(7, 0, 0), -1);
        due("4: BAD ahead of FULL", x.gate(0, 0, 10), -2);
        for (int i = 0; i < 7; i++) {
            due("5: kind", x.of(i, 0), i);
            due("5: v", x.of(i, 1), 9 - i);
            due("5: turn", x.of(i, 2), i + 1);
            due("5: line", x.of(i, 3), 1);
        }
        due("5: what 4", x.of(0, 4), -1);
        due("5: what -1", x.of(0, -1), -1);
        due("5: gate 7", x.of(7, 0), -1);
        due("5: gate -1", x.of(-1, 0), -1);
    }

    private static void turnPlanRow() {
        FortyGates x = new FortyGates();
        x.gate(GATE, 1, 4);
        x.gate(TOLD, 2, 5);
        due("6: turn", x.turn(1, 9), 5);
        due("6: turn back", x.turn(1, 0), 9);
        due("6: turn 10", x.turn(1, 10), -2);
        due("6: turn -1", x.turn(1, -1), -2);
        due("6: NONE ahead", x.turn(2, 10), -1);
        due("6: as it is", x.of(1, 2), 0);
        due("6: the other one", x.of(0, 2), 4);
        due("7: plan", x.plan(1, 2), 1);
        due("7: plan again", x.plan(1, 0), 2);
        due("7: plan 3", x.plan(1, 3), -2);
        due("7: plan -1", x.plan(1, -1), -2);
        due("7: NONE ahead", x.plan(-1, 3), -1);
        due("7: as it is", x.of(1, 3), 0);
        due("7: the other one", x.of(0, 3), 1);
        due("8: row", x.row(1, 3, 9), 0);
        due("8: row again", x.row(1, 3, 4), 9);
        due("8: other place", x.row(1, 2, 1), 0);
        due("8: k 4", x.row(1, 4, 10), -1);
        due("8: k -1", x.row(0, -1, 0), -1);
        due("8: gate 2", x.row(2, 0, 0), -1);
        due("8: n 10, BAD ahead of STATE", x.row(0, 0, 10), -2);
        due("8: n -1", x.row(1, 0, -1), -2);
        due("8: another kind", x.row(0, 0, 0), -3);
    }

    private static void skierSkill() {
        FortyGates x = new FortyGates();
        due("9: skill 10", x.skier(10), -2);
        due("9: skill -1", x.skier(-1), -2);
        for (int i = 0; i < 5; i++) {
            due("9: skier", x.skier(9 - i), i);
        }
        due("9: sixth", x.skier(0), -4);
        due("9: BAD ahead of FULL", x.skier(10), -2);
        due("10: stays", x.skill(4, -1), 5);
        due("10: becomes", x.skill(4, 0), 5);
        due("10: became", x.skill(4, -1), 0);
        due("10: n 10", x.skill(4, 10), -2);
        due("10: n -2", x.skill(4, -2), -2);
        due("10: NONE ahead", x.skill(5, 10), -1);
        due("10: skier -1", x.skill(-1, 0), -1);
    }

    private static void told() {
        FortyGates x = one(GATE, 4, 5);
        slope(x, "fog 12;rut 34");
        x.run(0);
        x.run(0);
        due("11: runs", x.told(0), 2);
        due("11: rut", x.told(1), 34);
        due("11: fog", x.told(2), 12);
        due("11: what 3", x.told(3), -1);
        due("11: what -1", x.told(-1), -1);
    }

    private static void run() {
        FortyGates x = one(TOLD, 6, 2);
        slope(x, "rut 2");
        x.row(0, 0, 9);
        x.row(0, 3, 5);
        int[] takes = {61, 52, 53, 58, 63, 54};
        for (int i = 0; i < takes.length; i++) {
            due("12: run " + i, x.run(0), takes[i]);
            due("12: runs", x.told(0), i + 1);
        }
        due("12: no skier", x.run(1), -1);
        due("12: no skier -1", x.run(-1), -1);
        due("12: a refused run is none", x.told(0), 6);
        x.plan(0, 0);
        due("12: by the line", x.run(0), 59);
    }

    private static void passes(int kind, int c, String slope, int takes, int over, int pace) {
        FortyGates x = one(kind, 6, 2);
        x.plan(0, c);
        if (!slope.isEmpty()) {
            slope(x, slope);
        }
        String what = "13: kind " + kind + " line " + c + " '" + slope + "' ";
        due(what + "time", x.would(0, 0), takes);
        due(what + "takes", x.would(0, 10), takes);
        due(what + "over", x.would(0, 20), over);
        due(what + "pace", x.would(0, 1), pace);
        due(what + "slides", x.would(0, 2), over > 0 ? 1 : 0);
    }

    private static void wouldOfKinds() {
        passes(GATE, 0, "", 57, 3, 0);
        passes(GATE, 1, "", 53, 0, 2);
        passes(GATE, 2, "", 58, 0, 3);
        passes(OPEN, 1, "", 53, 0, 4);
        passes(TIGHT, 0, "", 63, 5, 0);
        passes(TIGHT, 1, "", 59, 2, 0);
        passes(TIGHT, 2, "", 58, 0, 3);
        passes(STEEP, 0, "", 56, 4, 0);
        passes(STEEP, 1, "", 52, 1, 2);
        passes(STEEP, 2, "", 54, 0, 4);
        passes(FLAT, 1, "", 71, 0, 4);
        passes(FLAT, 2, "", 76, 0, 5);
        passes(BLIND, 1, "", 59, 2, 0);
        passes(BLIND, 1, "fog 2", 59, 2, 0);
        passes(BLIND, 1, "fog 3", 68, 5, 0);
        passes(BLIND, 2, "fog 3", 64, 2, 0);
        passes(TIGHT, 1, "fog 99", 59, 2, 0);
        passes(TOLD, 1, "", 52, 1, 2);
    }

    private static void wouldOfClauses() {
        passes(GATE, 1, "ice 1 g=0", 56, 1, 1);
        passes(GATE, 1, "ice 99 g=0", 113, 20, 0);
        passes(GATE, 1, "ice 19 g=0;ice 1 k=0", 113, 20, 0);
        passes(GATE, 1, "ice 18 g=0;ice 1 k=0", 110, 19, 0);
        passes(GATE, 1, "ice 1 g=0;ice 1 g=1;ice 1 t=6", 59, 2, 0);
        passes(GATE, 1, "wax 9 p=3", 44, 0, 2);
        passes(GATE, 1, "wax 9 p=3;wax 2 s=2;wax 1 s=3", 42, 0, 2);
        passes(GATE, 1, "wax 52 g=0", 1, 0, 2);
        passes(GATE, 1, "wax 53 g=0", 1, 0, 2);
        passes(GATE, 1, "wax 51 g=0", 2, 0, 2);
        passes(GATE, 1, "ice 1 t=6;ice 1 t=6;ice 1 t=6;ice 1 t=6;ice 1 t=6;ice 1 t=6;ice 1 t=6;ice 1 t=6;ice 1 t=6;ice 1 t=6",
                83, 10, 0);
        passes(STEEP, 1, "wax 5 p=3", 47, 1, 2);
        passes(STEEP, 1, "wax 5 p=4", 52, 1, 2);
        passes(STEEP, 1, "ice 2 p=3", 58, 3, 0);
        passes(STEEP, 1, "ice 2 p=4", 52, 1, 2);
        passes(TOLD, 1, "ice 2 p=3", 58, 3, 0);
        passes(TOLD, 1, "ice 2 p=4;wax 5 p=4", 52, 1, 2);
        passes(TOLD, 1, "ice 2 p=3;wax 5 p=3", 53, 3, 0);
        passes(TIGHT, 1, "ice 2 t=6", 65, 4, 0);
        passes(TIGHT, 1, "ice 2 t=8", 59, 2, 0);
        passes(BLIND, 1, "fog 3;ice 2 t=6", 74, 7, 0);
        passes(BLIND, 1, "fog 3;ice 2 t>6", 68, 5, 0);
        passes(TIGHT, 1, "wax 5 t=6", 54, 2, 0);
        passes(TIGHT, 1, "wax 5 t=8", 59, 2, 0);
        passes(TOLD, 1, "wax 5 k=6", 47, 1, 2);
        passes(TOLD, 1, "wax 5 k=3", 52, 1, 2);
        FortyGates x = one(GATE, 6, 2);
        slope(x, "rut 1");
        slope(x, "wax 7 g=0");
        slope(x, "ice 1 g=0");
        due("13: the newest slope alone", x.would(0, 0), 56);
    }

    private static void wouldOfAll() {
        FortyGates x = new FortyGates();
        x.skier(9);
        for (int i = 0; i < 4; i++) {
            x.gate(OPEN, 0, 0);
            x.plan(i, 0);
        }
        due("13: first takes", x.would(0, 10), 48);
        due("13: by 6", x.would(0, 11), 36);
        due("13: by 9", x.would(0, 12), 24);
        due("13: by 9 still", x.would(0, 13), 24);
        due("13: all", x.would(0, 0), 132);
        due("13: pace is 9 at most", x.would(0, 1), 9);
        x.gate(STEEP, 0, 9);
        x.plan(4, 0);
        due("13: steep by 9 at most", x.would(0, 14), 39);
        due("13: steep by 9 at most, over", x.would(0, 24), 5);
        due("13: pace behind all", x.would(0, 1), 2);
        due("13: slides somewhere", x.would(0, 2), 1);
        due("13: over at another", x.would(0, 23), 0);
        x.turn(4, 0);
        due("13: slides nowhere now", x.would(0, 2), 0);
        x.turn(4, 9);
        int[] none = {-1, 3, 9, 15, 19, 25, 30, MAX, MIN};
        for (int what : none) {
            due("13: what " + what, x.would(0, what), -1);
        }
        due("13: no skier", x.would(1, 0), -1);
        due("13: changes nothing", x.told(0), 0);
    }

    private static void holds(String condition, boolean due) {
        FortyGates x = new FortyGates();
        x.gate(GATE, 0, 0);
        x.gate(OPEN, 0, 5);
        x.skier(4);
        for (int i = 0; i < 12; i++) {
            x.run(0);
        }
        slope(x, "wax 7 " + condition);
        // there the second gate is passed by pace 4: 60 - 16 + 5
        due("13: " + condition, x.would(0, 11), due ? 42 : 49);
    }

    private static void tests() {
        String[] so = {"g=1", "g<2", "g>0", "k=1", "t=5", "p=4", "p<5", "p>3", "r=2", "s=4", "p<10", "p<99", "!g>1",
            "g=1|g=2&g=3", "(g=2|g=1)&k=1", "!g=2&g=1", "!(g=2&g=1)", "!!g=1", "!g=1|g=1", "!g=0&!g=2", "!(!(g=1))",
            "g=3|g=2|g=1", "g=1&k=1&t=5&p=4&r=2&s=4", "g=0|!g=0", "g=1&(k=0|(t=5&(p=9|s=4)))"};
        String[] not = {"g=0", "g<1", "g>1", "k=0", "t=4", "p=3", "p<4", "p>4", "r=3", "r=12", "s=5", "p=10", "p>9",
            "p>99", "!g=1", "(g=1|g=2)&g=3", "!(g=2|g=1)", "!!!g=1", "g=1&g=2", "!p<5", "!g=1&g=1", "p<0", "p=14"};
        for (String condition : so) {
            holds(condition, true);
        }
        for (String condition : not) {
            holds(condition, false);
        }
    }

    private static void quickest() {
        FortyGates x = two();
        due("14: time", x.quickest(0, -1), 97);
        due("14: first gate", x.quickest(0, 0), 0);
        due("14: second gate", x.quickest(0, 1), 1);
        due("14: fewer", x.quickest(0, 2), -5);
        due("14: fewer, 6", x.quickest(0, 6), -5);
        due("14: k 7", x.quickest(0, 7), -1);
        due("14: k -2", x.quickest(0, -2), -1);
        due("14: no skier", x.quickest(2, -1), -1);
        due("14: other", x.quickest(1, -1), 117);
        due("14: other's second", x.quickest(1, 1), 2);
        slope(x, "wax 99 g<9");
        due("14: all take 1", x.quickest(1, -1), 2);
        due("14: of several the first", x.quickest(1, 0), 0);
        due("14: of several the first, second", x.quickest(1, 1), 0);
    }

    private static void clean() {
        FortyGates x = one(STEEP, 6, 2);
        due("15: quickest slides", x.quickest(0, -1), 52);
        due("15: clean", x.clean(0, -1), 54);
        due("15: its line", x.clean(0, 0), 2);
        due("15: fewer", x.clean(0, 1), -5);
        due("15: k 7", x.clean(0, 7), -1);
        due("15: no skier", x.clean(-1, 0), -1);
        FortyGates none = one(TIGHT, 9, 0);
        due("15: none", none.clean(0, -1), -5);
        due("15: none, 0", none.clean(0, 0), -5);
        due("15: none, 7", none.clean(0, 7), -1);
        FortyGates all = one(GATE, 0, 9);
        slope(all, "wax 99 g=0");
        due("15: of several the first", all.clean(0, 0), 0);
    }

    private static void up() {
        FortyGates x = one(STEEP, 6, 2);
        due("16: above", x.up(0, 0), 19);
        due("16: below", x.up(0, 1), 20);
        x.plan(0, 0);
        due("16: lowest above", x.up(0, 0), 4);
        due("16: lowest below", x.up(0, 1), 5);
        x.plan(0, 2);
        due("16: surely above", x.up(0, 0), 1);
        due("16: surely below", x.up(0, 1), 1);
        slope(x, "ice 99 g=0");
        due("16: never above", x.up(0, 0), 0);
        due("16: never below", x.up(0, 1), 1);
        due("16: part 2", x.up(0, 2), NO);
        due("16: part -1", x.up(0, -1), NO);
        due("16: no skier", x.up(1, 0), NO);
        FortyGates seven = new FortyGates();
        seven.skier(0);
        for (int i = 0; i < 7; i++) {
            seven.gate(GATE, 0, 0);
        }
        slope(seven, "ice 8 p=3;ice 8 p=0");
        // by 3: over 4, pace behind 0; by 0: over 1, pace behind 0; so 16 by 20, and six times 19 by 20
        due("16: seven above", seven.up(0, 0), 47045881L);
        due("16: seven below", seven.up(0, 1), 80000000L);
        long above = 1;
        for (int gates = 1; gates <= 7; gates++) {
            FortyGates some = new FortyGates();
            some.skier(0);
            for (int i = 0; i < gates; i++) {
                some.gate(GATE, 0, 9);
            }
            // by 3: over 5, pace behind 0; by 0: over 2; so 3 by 4, and else 9 by 10
            due("16: " + gates + " above", some.up(0, 0), 3 * above);
            due("16: " + gates + " below", some.up(0, 1), 4 * tens(gates - 1));
            above *= 9;
        }
    }

    private static long tens(int n) {
        return n == 0 ? 1 : 10 * tens(n - 1);
    }

    private static void surestSure() {
        FortyGates x = one(STEEP, 6, 2);
        int[][] rows = {{999, 1, 1, 2}, {54, 1, 1, 2}, {53, 19, 20, 1}, {52, 19, 20, 1}, {51, 0, 1, -5}, {0, 0, 1, -5}};
        for (int[] row : rows) {
            due("17: above, " + row[0], x.surest(0, row[0], 0), row[1]);
            due("17: below, " + row[0], x.surest(0, row[0], 1), row[2]);
            due("18: line, " + row[0], x.sure(0, row[0], 0), row[3]);
        }
        due("17: time 1000", x.surest(0, 1000, 0), NO);
        due("17: time -1", x.surest(0, -1, 0), NO);
        due("17: part 2", x.surest(0, 54, 2), NO);
        due("17: no skier", x.surest(1, 54, 0), NO);
        due("18: fewer", x.sure(0, 54, 1), -5);
        due("18: time 1000", x.sure(0, 1000, 0), -2);
        due("18: time -1", x.sure(0, -1, 6), -2);
        due("18: k 7", x.sure(0, 1000, 7), -1);
        due("18: k -1", x.sure(0, 54, -1), -1);
        due("18: no skier", x.sure(1, 1000, 0), -1);
        FortyGates all = one(GATE, 0, 9);
        due("18: of several the first", all.sure(0, 100, 0), 0);
        FortyGates afresh = one(STEEP, 6, 2);
        due("18: asked alone", afresh.sure(0, 54, 0), 2);
        due("18: another time asked", afresh.sure(0, 53, 0), 1);
        slope(all, "ice 99 g=0");
        due("18: by none one stays up, the first", all.sure(0, 999, 0), 0);
        due("17: by none one stays up", all.surest(0, 999, 1), 1);
    }

    private static void carry() {
        FortyGates x = one(GATE, 0, 9);
        due("19: carry", x.carry(0, 0), 12);
        slope(x, "ice 20 p=6");
        due("19: below 0", x.carry(0, 0), -19);
        due("19: no gate", x.carry(0, 1), -10001);
        due("19: gate -1", x.carry(0, -1), -10001);
        due("19: no skier", x.carry(1, 0), -10001);
        FortyGates y = two();
        // by 3 and line 0: 48 + 3; by 6 and line 1: 36 + 5 + 3
        due("19: from the second on", y.carry(0, 1), 7);
        // 48 + 49; by 6 it is 36, then by 7 and line 2 it is 32 + 10
        due("19: from the first on", y.carry(0, 0), 19);
    }

    private static void start() {
        FortyGates x = one(TOLD, 6, 2);
        x.row(0, 3, 9);
        slope(x, "rut 5;ice 1 r=9");
        x.run(0);
        due("20: none", x.start(0, 0), 52);
        due("20: 3 have the row", x.start(0, 3), 61);
        due("20: 5 are a rut", x.start(0, 5), 53);
        // line 2: 44 + 10, no slide by ice 1 (4 + 6 + 1 - 6 - 6 is below 0)
        due("20: 9 are icy", x.start(0, 9), 55);
        due("20: 99", x.start(0, 99), 54 + 19 + 9);
        due("20: 100", x.start(0, 100), -2);
        due("20: -1", x.start(0, -1), -2);
        due("20: NONE ahead", x.start(1, 100), -1);
        due("20: changes nothing", x.told(0), 1);
        slope(x, "wax 4 r=3;wax 2 r=2");
        due("20: wax helps", x.start(0, 3), 57);
        due("20: less wax", x.start(0, 2), 50);
    }

    private static void rutted() {
        FortyGates x = one(GATE, 6, 2);
        due("21: by none", x.rutted(0), -5);
        slope(x, "wax 99 r=7");
        due("21: by 7", x.rutted(0), 7);
        for (int i = 0; i < 7; i++) {
            x.run(0);
        }
        due("21: whatever runs there are", x.rutted(0), 7);
        slope(x, "rut 99;wax 56 g=0");
        due("21: by 99", x.rutted(0), 99);
        slope(x, "rut 50;wax 57 g=0");
        due("21: by 100, not asked", x.rutted(0), -5);
        slope(x, "wax 99 r=0");
        due("21: by 1", x.rutted(0), 1);
        due("21: no skier", x.rutted(1), -1);
        FortyGates seven = new FortyGates();
        seven.skier(9);
        for (int i = 0; i < 7; i++) {
            seven.gate(GATE, 0, 0);
        }
        due("21: seven, by none", seven.rutted(0), -5);
        // where the last gate is icy by any pace, a higher line is quicker there
        slope(seven, "ice 20 r=4&g=6");
        due("21: seven, by the last", seven.rutted(0), 4);
    }

    private static void wax() {
        FortyGates x = one(GATE, 6, 2);
        due("22: no slope", x.wax(0), 0);
        slope(x, "wax 9 p=3;ice 1 g=1;wax 1 g=0");
        due("22: all wax", x.wax(0), 10);
        slope(x, "wax 99 g=0");
        due("22: 1 at least", x.wax(0), 52);
        slope(x, "wax 5 r=1");
        due("22: as runs are", x.wax(0), 0);
        x.run(0);
        due("22: as runs are, 1", x.wax(0), 5);
        due("22: no skier", x.wax(1), -1);
    }

    private static void loses() {
        FortyGates x = two();
        due("23: gate", x.loses(1, 0, 0), 1);
        due("23: how much", x.loses(1, 0, 1), 20);
        due("23: at none", x.loses(0, 1, 0), -5);
        due("23: at none, how much", x.loses(0, 1, 1), -5);
        due("23: what 2, NONE ahead", x.loses(0, 0, 2), -1);
        due("23: what -1", x.loses(0, 1, -1), -1);
        due("23: no skier", x.loses(2, 2, 0), -1);
        due("23: one is both", x.loses(0, 0, 0), -2);
        FortyGates y = new FortyGates();
        y.skier(5);
        y.skier(4);
        for (int i = 0; i < 3; i++) {
            y.gate(GATE, 0, 0);
        }
        slope(y, "wax 9 s=4&g>0");
        due("23: of several the first", y.loses(0, 1, 0), 1);
        due("23: of several, how much", y.loses(0, 1, 1), 9);
        slope(y, "wax 9 s=4&g=1;wax 8 s=4&g=0;wax 10 s=4&g=2");
        due("23: the most", y.loses(0, 1, 0), 2);
    }

    private static void wins() {
        FortyGates x = two();
        long[] dues = {1, 1, 0, 1, 0, 1, 0, 1};
        int i = 0;
        for (int one = 0; one <= 1; one++) {
            for (int what = 0; what <= 1; what++) {
                for (int part = 0; part <= 1; part++) {
                    due("24: wins " + one + " " + what + " " + part, x.wins(one, 1 - one, what, part), dues[i++]);
                }
            }
        }
        x.skier(0);
        due("24: like times, first", x.wins(1, 2, 0, 0), 3);
        due("24: like times, first, below", x.wins(1, 2, 0, 1), 16);
        due("24: like times, even", x.wins(1, 2, 1, 0), 5);
        due("24: like times, even, below", x.wins(1, 2, 1, 1), 8);
        x.skill(0, 1);
        // skill 1: at the second gate over 4 (line 2): 44 + 10 + 12 is 66, 16 of 20 stay up
        due("24: quicker, first", x.wins(0, 1, 0, 0), 4);
        due("24: quicker, first, below", x.wins(0, 1, 0, 1), 5);
        due("24: slower, first", x.wins(1, 0, 0, 0), 3);
        due("24: slower, first, below", x.wins(1, 0, 0, 1), 20);
        due("24: even, both fall", x.wins(1, 0, 1, 0), 1);
        due("24: even, both fall, below", x.wins(1, 0, 1, 1), 20);
        due("24: one is both", x.wins(0, 0, 0, 0), NO);
        due("24: no skier", x.wins(0, 3, 0, 0), NO);
        due("24: no skier ahead", x.wins(-1, 0, 0, 0), NO);
        due("24: what 2", x.wins(0, 1, 2, 0), NO);
        due("24: what -1", x.wins(0, 1, -1, 0), NO);
        due("24: part 2", x.wins(0, 1, 0, 2), NO);
    }

    private static void risk() {
        FortyGates x = one(STEEP, 6, 2);
        x.skier(2);
        int[][] rows = {{0, 19, 20}, {-1, 19, 20}, {-2, 1, 1}, {-99, 1, 1}, {1, 0, 1}, {99, 0, 1}};
        for (int[] row : rows) {
            due("25: above, " + row[0], x.risk(0, 1, row[0], 0), row[1]);
            due("25: below, " + row[0], x.risk(0, 1, row[0], 1), row[2]);
        }
        x.skill(1, 9);
        // skill 9: line 0, 44
        due("25: the other one's time", x.risk(0, 1, -8, 0), 19);
        due("25: the other one's time, too quick", x.risk(0, 1, -7, 0), 0);
        due("25: the quicker one", x.risk(1, 0, 0, 0), 1);
        due("25: d 100", x.risk(0, 1, 100, 0), NO);
        due("25: d -100", x.risk(0, 1, -100, 0), NO);
        due("25: part 2", x.risk(0, 1, 0, 2), NO);
        due("25: one is both", x.risk(0, 0, 0, 0), NO);
        due("25: no skier", x.risk(2, 0, 0, 0), NO);
        due("25: no other", x.risk(0, 2, 0, 0), NO);
        FortyGates far = one(GATE, 0, 9);
        far.skier(9);
        far.gate(GATE, 0, 0);
        far.gate(GATE, 0, 0);
        slope(far, "rut 1");
        for (int i = 0; i < 400; i++) {
            far.run(0);
        }
        due("25: least times above 999", far.risk(0, 1, 0, 0), 1);
    }

    private static void set() {
        FortyGates x = two();
        due("26: the first gains", x.set(0, 1), 1);
        due("26: the first loses", x.set(1, 0), -5);
        due("26: one is both", x.set(0, 0), -2);
        due("26: NONE ahead", x.set(2, 2), -1);
        due("26: no other", x.set(0, -1), -1);
        due("26: changes nothing", x.quickest(0, -1), 97);
        FortyGates same = new FortyGates();
        same.skier(9);
        same.skier(0);
        due("26: no gates", same.set(0, 1), -5);
        for (int i = 0; i < 4; i++) {
            same.gate(GATE, 0, 0);
        }
        due("26: like gates", same.set(0, 1), -5);
        // who passes gate 3 by pace 3, so first of all, has wax there; numbers stay, so any other gate waxes less
        slope(same, "wax 30 g=3&p=3&s=9");
        due("26: numbers stay", same.set(0, 1), 3);
        slope(same, "wax 30 g=3&p<5&p>2&s=9");
        due("26: of several the first", same.set(0, 1), 3);
        slope(same, "wax 30 g=2&p=4&s=9");
        due("26: a later pair", same.set(0, 1), 12);
    }

    private static void rankMean() {
        FortyGates x = new FortyGates();
        x.gate(GATE, 0, 0);
        x.gate(TIGHT, 0, 9);
        due("27: nobody", x.rank(0), -1);
        due("28: nobody", x.mean(1), NO);
        x.skier(0);
        x.skier(9);
        x.skier(0);
        due("27: first", x.rank(0), 1);
        due("27: second", x.rank(1), 0);
        due("27: third", x.rank(2), 2);
        due("27: fourth", x.rank(3), -1);
        due("27: -1", x.rank(-1), -1);
        due("28: above", x.mean(0), 331);
        due("28: below", x.mean(1), 3);
        due("28: part 2", x.mean(2), NO);
        due("28: part -1", x.mean(-1), NO);
        FortyGates y = two();
        due("28: lowest above", y.mean(0), 107);
        due("28: lowest below", y.mean(1), 1);
    }

    private static void slowest() {
        FortyGates x = new FortyGates();
        x.skier(9);
        due("29: no gates", x.slowest(0), -5);
        x.gate(GATE, 0, 0);
        x.gate(FLAT, 0, 0);
        x.gate(FLAT, 0, 0);
        // by the line (1): 53; by 4: 63; by 7: 39
        due("29: slowest", x.slowest(0), 1);
        due("29: no skier", x.slowest(1), -1);
        FortyGates y = new FortyGates();
        y.skier(9);
        y.gate(GATE, 0, 3);
        y.gate(GATE, 0, 3);
        due("29: of several the first", y.slowest(0), 0);
        y.plan(1, 2);
        due("29: by the line", y.slowest(0), 1);
    }

    private static void see() {
        FortyGates x = one(GATE, 0, 0);
        due("30: first", x.see(0, 0), 1);
        due("30: time 9999", x.see(0, 9999), 2);
        due("30: time 10000", x.see(0, 10000), -2);
        due("30: time -1", x.see(0, -1), -2);
        due("30: NONE ahead", x.see(1, 10000), -1);
        due("30: gate -2", x.see(-2, 0), -1);
        for (int i = 3; i <= 7; i++) {
            due("30: more", x.see(0, 5), i);
        }
        due("30: eighth", x.see(0, 5), -4);
        due("30: BAD ahead of FULL", x.see(0, 10000), -2);
        due("30: count", x.count(3), 7);
        due("30: none then", x.see(-1, MIN), 0);
        due("30: count of none", x.count(3), 0);
    }

    private static void fitsWho() {
        FortyGates x = one(STEEP, 6, 2);
        x.gate(GATE, 0, 0);
        due("31: nothing seen", x.fits(0, -1), 9);
        due("31: nothing seen, the first", x.fits(0, 0), 0);
        x.see(1, 104);
        due("31: together", x.fits(0, -1), 1);
        due("31: first gate", x.fits(0, 0), 1);
        due("31: second gate", x.fits(0, 1), 0);
        due("31: fewer", x.fits(0, 2), -5);
        due("31: fewer, 6", x.fits(0, 6), -5);
        x.see(0, 52);
        due("31: both so", x.fits(0, -1), 1);
        x.see(0, 54);
        due("31: not both so", x.fits(0, -1), 0);
        due("31: none, 0", x.fits(0, 0), -5);
        due("32: nobody", x.who(), 0);
        x.see(-1, 0);
        x.see(0, 54);
        x.see(0, 54);
        due("31: told twice", x.fits(0, -1), 3);
        due("31: the first of three", x.fits(0, 1), 0);
        due("31: k 7", x.fits(0, 7), -1);
        due("31: k -2", x.fits(0, -2), -1);
        due("31: no skier", x.fits(1, -1), -1);
        x.skier(9);
        x.skier(2);
        due("32: bits", x.who(), 7);
        x.see(1, 98);
        // skill 9: line 2 takes 54, but then 44 by pace 4, too: 98
        due("32: bits still", x.who(), 7);
        x.see(-1, 0);
        x.see(0, 56);
        due("32: bits without one", x.who(), 5);
        x.see(0, 57);
        due("32: not so for any", x.who(), 0);
    }

    private static void bookLooked() {
        FortyGates x = two();
        due("34: no rows", x.looked(), -5);
        due("33: first", x.book(0, 97), 1);
        due("33: second", x.book(1, 117), 2);
        due("34: all so", x.looked(), -5);
        due("33: third", x.book(1, 116), 3);
        due("34: the third", x.looked(), 2);
        x.skill(0, 0);
        due("34: as things are now", x.looked(), 0);
        due("33: time 10000", x.book(0, 10000), -2);
        due("33: time -1", x.book(0, -1), -2);
        due("33: NONE ahead", x.book(2, 10000), -1);
        due("33: skier -2", x.book(-2, 0), -1);
        for (int i = 4; i <= 8; i++) {
            due("33: more", x.book(0, 9999), i);
        }
        due("33: ninth", x.book(0, 0), -4);
        due("33: BAD ahead of FULL", x.book(0, -1), -2);
        due("33: count", x.count(4), 8);
        due("33: none then", x.book(-1, MAX), 0);
        due("33: count of none", x.count(4), 0);
        due("34: no rows again", x.looked(), -5);
    }

    private static void act(int kind, int act, int due, int... bodies) {
        FortyGates x = new FortyGates();
        x.gate(GATE, 0, 0);
        x.gate(kind, 2, 0);
        String what = "35: kind " + kind + " act " + act;
        due(what, x.act(1, act, 5), due);
        due(what + " bodies", x.count(6), bodies.length);
        for (int i = 0; i < bodies.length; i++) {
            due(what + " body " + i, x.trace(i), bodies[i]);
        }
        due(what + " no more", x.trace(bodies.length), -1);
    }

    private static void act() {
        act(GATE, 0, 6, 1);
        act(GATE, 1, 4, 2, 1);
        act(GATE, 2, 8, 3, 2, 1);
        act(OPEN, 0, 16, 11, 1);
        act(OPEN, 1, 14, 2, 11, 1);
        act(OPEN, 2, 28, 3, 2, 11, 1);
        act(TIGHT, 0, 6, 1);
        act(TIGHT, 1, -4, 21, 2, 1);
        act(TIGHT, 2, -8, 3, 21, 2, 1);
        act(STEEP, 1, 4, 2, 1);
        act(STEEP, 2, 15, 31, 3, 2, 1);
        act(FLAT, 0, 16, 11, 1);
        act(FLAT, 2, 29, 41, 3, 2, 11, 1, 11, 1);
        act(BLIND, 0, 7, 51, 1);
        act(BLIND, 1, -5, 21, 2, 51, 1);
        act(BLIND, 2, -10, 3, 21, 2, 51, 1);
        act(TOLD, 0, 6, 1);
        act(TOLD, 1, 6, 61, 2, 1);
        act(TOLD, 2, 11, 31, 3, 61, 2, 1);
        FortyGates x = new FortyGates();
        x.gate(GATE, 0, 0);
        x.gate(OPEN, 1, 0);
        due("35: wraps", x.act(0, 2, MAX), -2);
        due("35: wraps by 3 and 1", x.act(1, 0, MAX), MAX * 3 + 1);
        due("35: wraps below", x.act(1, 1, MIN), MIN * 3);
    }

    private static void trace() {
        FortyGates x = one(FLAT, 0, 0);
        due("36: none yet", x.trace(0), -1);
        x.act(0, 2, 0);
        due("36: first", x.trace(0), 41);
        due("36: last", x.trace(6), 1);
        due("36: behind", x.trace(7), -1);
        due("36: -1", x.trace(-1), -1);
        x.image();
        x.act(0, 0, 0);
        x.undo();
        due("36: no image holds it", x.trace(0), 11);
        due("36: of the latest act alone", x.trace(2), -1);
        due("35: no such gate", x.act(1, 0, 5), 0);
        due("36: no trace then", x.trace(0), -1);
        due("40: no bodies then", x.count(6), 0);
        x.act(0, 0, 0);
        due("35: no such act", x.act(0, 3, 5), 0);
        due("36: no trace then, either", x.trace(0), -1);
        x.act(0, 0, 0);
        due("35: act -1", x.act(0, -1, 5), 0);
        due("40: no bodies then, either", x.count(6), 0);
        due("35: gate -1", x.act(-1, 0, 5), 0);
    }

    private static void as() {
        int[][] under = {{0}, {0, 1}, {0, 2}, {0, 3}, {0, 1, 4}, {0, 2, 5}, {0, 3, 6}};
        FortyGates x = new FortyGates();
        for (int kind = 0; kind < 7; kind++) {
            x.gate(kind, kind + 2, 0);
        }
        for (int kind = 0; kind < 7; kind++) {
            for (int k = 0; k < 7; k++) {
                int due = -6;
                for (int above : under[kind]) {
                    due = above == k ? kind + 2 : due;
                }
                due("37: kind " + kind + " as " + k, x.as(kind, k), due);
            }
        }
        due("37: k 7", x.as(0, 7), -1);
        due("37: k -1", x.as(0, -1), -1);
        due("37: gate 7", x.as(7, 0), -1);
        due("37: gate -1", x.as(-1, 0), -1);
    }

    private static void imageUndo() {
        FortyGates x = one(TOLD, 6, 2);
        due("39: none", x.undo(), -3);
        slope(x, "rut 2;wax 3 g=0&p>1;fog 4");
        x.row(0, 1, 7);
        x.plan(0, 2);
        x.run(0);
        x.see(0, 50);
        x.book(0, 51);
        x.feed('f');
        due("38: image", x.image(), 1);
        int would = x.would(0, 0);
        for (int again = 0; again < 2; again++) {
            x.gate(TOLD, 1, 1);
            x.row(1, 0, 9);
            x.turn(0, 1);
            x.plan(0, 0);
            x.row(0, 1, 1);
            x.skier(7);
            x.skill(0, 8);
            x.run(0);
            x.see(0, 60);
            x.book(0, 61);
            slope(x, "og 9;ice 2 g=0;wax 9 g=0");
            x.feed('q');
            x.feed('r');
            x.see(-1, 0);
            x.see(0, 61);
            x.book(-1, 0);
            x.book(1, 62);
            due("39: undo", x.undo(), 1);
            due("39: gates", x.count(0), 1);
            due("39: skiers", x.count(1), 1);
            due("39: slopes", x.count(2), 1);
            due("39: seen", x.count(3), 1);
            due("39: book", x.count(4), 1);
            due("39: tape", x.count(5), 1);
            due("39: runs", x.told(0), 1);
            due("39: rut", x.told(1), 2);
            due("39: fog", x.told(2), 4);
            due("39: turn", x.of(0, 2), 6);
            due("39: line", x.of(0, 3), 2);
            due("39: skill", x.skill(0, -1), 2);
            due("39: row", x.row(0, 1, 7), 7);
            due("39: would", x.would(0, 0), would);
            due("39: seen is as it was", x.fits(0, -1), 0);
            due("39: book is as it was", x.looked(), 0);
        }
        due("39: a row behind an undo is 0", x.gate(TOLD, 1, 1), 1);
        due("39: the row", x.row(1, 0, 3), 0);
        due("39: the line", x.of(1, 3), 1);
        due("39: two gates", x.quickest(0, 1), 0);
        x.undo();
        due("39: a time of one gate", x.quickest(0, -1), 56);
        due("39: two again", x.gate(TOLD, 1, 1), 1);
        due("39: the row", x.row(1, 0, 3), 0);
        due("38: the next image", x.image(), 2);
        x.gate(GATE, 0, 0);
        due("39: undo to the next", x.undo(), 2);
        due("39: the row there", x.row(1, 0, 0), 3);
        due("39: the tape goes on", slope(x, "og 6"), 1);
        due("39: its fog", x.told(2), 6);
        imageOfNotes();
        FortyGates seven = new FortyGates();
        for (int i = 0; i < 7; i++) {
            seven.gate(TOLD, i, i);
        }
        seven.row(6, 3, 8);
        seven.image();
        seven.row(6, 3, 4);
        seven.turn(6, 0);
        seven.plan(6, 0);
        due("39: seven", seven.undo(), 7);
        due("39: the last row", seven.row(6, 3, 1), 8);
        due("39: the last turn", seven.of(6, 2), 6);
        due("39: the last line", seven.of(6, 3), 1);
    }

    private static void imageOfNotes() {
        FortyGates x = one(TIGHT, 9, 0);
        due("39: by line 2, and by 0 behind it", x.quickest(0, -1), 70);
        x.see(0, 70);
        x.book(0, 70);
        x.image();
        x.gate(FLAT, 0, 0);
        due("39: one gate more", x.quickest(0, -1), 160);
        x.see(-1, 0);
        x.see(0, 9);
        x.book(-1, 0);
        x.book(0, 9);
        due("39: not so", x.fits(0, -1), 0);
        due("39: not so in the book", x.looked(), 0);
        x.undo();
        due("39: one gate", x.quickest(0, -1), 70);
        due("39: so again", x.fits(0, 0), 2);
        due("39: so again in the book", x.looked(), -5);
    }

    private static void count() {
        FortyGates x = one(TOLD, 1, 1);
        x.gate(GATE, 0, 0);
        x.skier(1);
        x.skier(1);
        slope(x, "rut 1");
        x.see(0, 1);
        x.book(0, 1);
        x.book(1, 1);
        x.feed('a');
        x.act(0, 2, 3);
        int[] dues = {2, 3, 1, 1, 2, 1, 5};
        for (int what = 0; what < dues.length; what++) {
            due("40: count " + what, x.count(what), dues[what]);
        }
        due("40: what 7", x.count(7), -1);
        due("40: what -1", x.count(-1), -1);
    }
}
