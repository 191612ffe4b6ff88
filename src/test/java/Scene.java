import java.util.Map;
import java.util.TreeMap;

/** Objects made by like calls each time, and all that can be seen of one of them. */
final class Scene {
    /** Nothing at all; three gates, three skiers and room for more; nothing that has room for more. */
    static final int EMPTY = 0, SOME = 1, FULL = 2;
    static final int[] GATES = {0, 3, 7}, SKIERS = {0, 3, 5};
    /** A slope of 100 bytes. */
    static final String LONGEST = "ice 1 " + "g=9&".repeat(20) + "g=10&g=11&g=12";

    private Scene() {
    }

    static FortyGates make(int scene) {
        FortyGates x = new FortyGates();
        if (scene == SOME) {
            makeSome(x);
        } else if (scene == FULL) {
            makeFull(x);
        }
        return x;
    }

    static void feed(FortyGates x, String text) {
        for (int i = 0; i < text.length(); i++) {
            x.feed(text.charAt(i));
        }
    }

    static int slope(FortyGates x, String text) {
        feed(x, text);
        return x.slope();
    }

    private static void makeSome(FortyGates x) {
        slope(x, "rut 3;fog 5;wax 4 p=3;ice 2 g=1");
        x.gate(2, 3, 6);
        x.gate(6, 2, 5);
        x.gate(4, 9, 0);
        x.skier(5);
        x.skier(8);
        x.skier(0);
        x.row(1, 0, 4);
        x.row(1, 2, 7);
        x.plan(0, 2);
        x.plan(2, 0);
        x.run(0);
        x.see(0, 1);
        x.book(0, 1);
        x.feed('f');
        x.image();
        slope(x, "og 4;rut 2;ice 3 k=2;wax 5 t<7");
        x.turn(0, 7);
        x.skill(0, 6);
        x.plan(1, 0);
        x.row(1, 3, 9);
        x.run(1);
        x.run(2);
        note(x, 2, 2);
        x.feed('f');
        x.feed('o');
        x.act(2, 2, 5);
    }

    private static void makeFull(FortyGates x) {
        for (int kind = 0; kind < 7; kind++) {
            x.gate(kind, 9 - kind, kind + 1);
        }
        for (int skier = 0; skier < 5; skier++) {
            x.skier(2 * skier);
        }
        for (int i = 0; i < 4; i++) {
            slope(x, "rut " + i);
        }
        x.row(6, 3, 9);
        feed(x, "rut 9");
        x.image();
        slope(x, ";fog 7;ice 1 p>4");
        x.row(6, 0, 8);
        x.run(4);
        note(x, 7, 8);
        feed(x, LONGEST);
        x.act(6, 2, 11);
    }

    /** What was seen and booked is so for the first skier; but for the last row of the book, no row of which is out. */
    private static void note(FortyGates x, int seen, int rows) {
        x.see(-1, 0);
        x.book(-1, 0);
        int together = 0;
        for (int i = 0; i < seen; i++) {
            together += x.would(0, 10 + i);
            x.see(i, together);
        }
        for (int i = 0; i < rows; i++) {
            int skier = i % 3;
            x.book(skier, x.quickest(skier, -1) + (i == rows - 1 ? 1 : 0));
        }
    }

    /** All that can be seen of an object, which is used up by that: what it holds, its tape, its image. */
    static String seen(FortyGates x) {
        return traceOf(x) + seenButTrace(x);
    }

    static String seenButTrace(FortyGates x) {
        StringBuilder text = new StringBuilder();
        look(x, text);
        use(x, text);
        text.append("\nundo ").append(x.undo());
        look(x, text);
        use(x, text);
        return text.toString();
    }

    static String traceOf(FortyGates x) {
        int ran = x.count(6);
        StringBuilder text = new StringBuilder("trace ").append(ran);
        for (int i = 0; i <= ran; i++) {
            text.append(' ').append(x.trace(i));
        }
        return text.toString();
    }

    private static void look(FortyGates x, StringBuilder text) {
        for (int what = 0; what < 6; what++) {
            text.append("\ncount ").append(what).append(' ').append(x.count(what));
        }
        for (int what = 0; what < 3; what++) {
            text.append("\ntold ").append(what).append(' ').append(x.told(what));
        }
        for (int gate = 0; gate < x.count(0); gate++) {
            text.append("\ngate ").append(gate);
            for (int what = 0; what < 4; what++) {
                text.append(' ').append(x.of(gate, what));
            }
        }
        for (int skier = 0; skier < x.count(1); skier++) {
            text.append("\nskier ").append(skier).append(' ').append(x.skill(skier, -1));
            text.append(' ').append(x.would(skier, 0)).append(' ').append(x.quickest(skier, -1));
            text.append(' ').append(x.fits(skier, -1));
        }
        text.append("\nlooked ").append(x.looked());
    }

    private static void use(FortyGates x, StringBuilder text) {
        for (int gate = 0; gate < x.count(0); gate++) {
            for (int k = 0; k < 4; k++) {
                text.append("\nrow ").append(gate).append(' ').append(k).append(' ').append(x.row(gate, k, 0));
            }
        }
        text.append("\nslope ").append(x.slope()).append(' ').append(x.told(1)).append(' ').append(x.told(2));
    }

    /** What an object holds, thing by thing, as a name and a number; it is used up by that. */
    static Map<String, Integer> held(FortyGates x) {
        Map<String, Integer> held = new TreeMap<>();
        for (int i = 0; i < x.count(6); i++) {
            held.put("trace " + i, x.trace(i));
        }
        held.put("ran", x.count(6));
        hold(x, "", held);
        held.put("undo", x.undo());
        hold(x, "undone ", held);
        return held;
    }

    private static void hold(FortyGates x, String ahead, Map<String, Integer> held) {
        String[] counts = {"gates", "skiers", "slopes", "seen", "book", "tape"};
        for (int what = 0; what < counts.length; what++) {
            held.put(ahead + counts[what], x.count(what));
        }
        String[] told = {"runs", "rut", "fog"};
        for (int what = 0; what < told.length; what++) {
            held.put(ahead + told[what], x.told(what));
        }
        String[] of = {"kind ", "v ", "turn ", "line "};
        for (int gate = 0; gate < x.count(0); gate++) {
            for (int what = 0; what < of.length; what++) {
                held.put(ahead + of[what] + gate, x.of(gate, what));
            }
            for (int k = 0; k < 4; k++) {
                held.put(ahead + "row " + gate + " " + k, x.row(gate, k, 0));
            }
        }
        for (int skier = 0; skier < x.count(1); skier++) {
            held.put(ahead + "skill " + skier, x.skill(skier, -1));
        }
        held.put(ahead + "read", x.slope());
    }
}
