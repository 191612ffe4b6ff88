import java.util.ArrayList;
import java.util.List;

/** The kinds as Java's own classes, so that Java itself says which body runs. */
final class PlainActs {
    static List<Integer> trace = new ArrayList<>();

    private PlainActs() {
    }

    static int act(int kind, int v, int i, int act, int x) {
        trace = new ArrayList<>();
        Gate gate = make(kind);
        gate.v = v;
        gate.i = i;
        return act == 0 ? gate.turns(x) : act == 1 ? gate.slides(x) : gate.tells(x);
    }

    static boolean isUnder(int kind, int above) {
        Gate gate = make(kind);
        switch (above) {
            case 0: return true;
            case 1: return gate instanceof Open;
            case 2: return gate instanceof Tight;
            case 3: return gate instanceof Steep;
            case 4: return gate instanceof Flat;
            case 5: return gate instanceof Blind;
            default: return gate instanceof Told;
        }
    }

    private static Gate make(int kind) {
        switch (kind) {
            case 0: return new Gate();
            case 1: return new Open();
            case 2: return new Tight();
            case 3: return new Steep();
            case 4: return new Flat();
            case 5: return new Blind();
            default: return new Told();
        }
    }

    static class Gate {
        int v;
        int i;

        int turns(int x) {
            trace.add(1);
            return x + i;
        }

        int slides(int x) {
            trace.add(2);
            return turns(x) - v;
        }

        int tells(int x) {
            trace.add(3);
            return slides(x) * 2;
        }
    }

    static class Open extends Gate {
        @Override int turns(int x) {
            trace.add(11);
            return super.turns(x * 3);
        }
    }

    static class Tight extends Gate {
        @Override int slides(int x) {
            trace.add(21);
            return -super.slides(x);
        }
    }

    static class Steep extends Gate {
        @Override int tells(int x) {
            trace.add(31);
            return super.tells(x) ^ 7;
        }
    }

    static class Flat extends Open {
        @Override int tells(int x) {
            trace.add(41);
            return super.tells(x - 1) + turns(2);
        }
    }

    static class Blind extends Tight {
        @Override int turns(int x) {
            trace.add(51);
            return super.turns(x) ^ i;
        }
    }

    static class Told extends Steep {
        @Override int slides(int x) {
            trace.add(61);
            return super.slides(x) + v;
        }
    }
}
