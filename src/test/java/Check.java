import java.util.HashMap;
import java.util.Map;

/** Counts answers that are not as due, and prints the first of them. */
final class Check {
    private static final int PRINTED = 40;
    private int looked;
    private int wrong;
    private final Map<String, Integer> perPlace = new HashMap<>();

    void due(String what, long got, long want) {
        looked++;
        if (got == want) {
            return;
        }
        wrong++;
        int here = perPlace.merge(what.replaceAll("\\(.*", ""), 1, Integer::sum);
        if (wrong <= PRINTED && here <= 5) {
            System.out.println(what + " answered " + got + ", due is " + want);
        }
    }

    void so(String what, boolean holds) {
        due(what, holds ? 1 : 0, 1);
    }

    int wrong() {
        return wrong;
    }

    void end() {
        System.out.println(looked + " answers looked at, " + wrong + " not as due");
        if (wrong != 0 || looked == 0) {
            System.exit(1);
        }
    }
}
