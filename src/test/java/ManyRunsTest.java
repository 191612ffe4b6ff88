/**
 * RUNS are 9999 at most. No 512 calls lead there, and the document leaves free what later calls
 * answer; but as nothing else shows that end of RUNS, it is looked at here, by more calls.
 */
public final class ManyRunsTest {
    private static final Check CHECK = new Check();

    private ManyRunsTest() {
    }

    public static void main(String[] args) {
        FortyGates x = new FortyGates();
        x.gate(6, 0, 0);
        x.skier(9);
        x.row(0, 9998 % 4, 5);
        Scene.slope(x, "rut 99;wax 7 r=8;ice 2 r=7");
        for (int i = 0; i < 9998; i++) {
            x.run(0);
        }
        CHECK.due("11: runs", x.told(0), 9998);
        // by 4: 60 - 16; line 1: 5; 9998 by 99: 100; its row: 5; less the wax of 7, as runs end with 8
        CHECK.due("12: the last run there may be", x.run(0), 147);
        CHECK.due("11: runs, full", x.told(0), 9999);
        CHECK.due("12: no run more", x.run(0), FortyGates.STATE);
        CHECK.due("12: still none", x.run(0), FortyGates.STATE);
        CHECK.due("12: NONE ahead of STATE", x.run(1), FortyGates.NONE);
        CHECK.due("12: NONE ahead of STATE, below", x.run(-1), FortyGates.NONE);
        CHECK.due("11: a refused run is none", x.told(0), 9999);
        // as above, but 9999 by 99 is 101, and there is no row and no wax
        CHECK.due("13: asked by 9999", x.would(0, 0), 150);
        x.image();
        CHECK.due("39: undo", x.undo(), 1);
        CHECK.due("12: still none behind an undo", x.run(0), FortyGates.STATE);
        CHECK.end();
    }
}
