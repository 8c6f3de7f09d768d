/** Promises 62 and 63: snapshots. */
public final class SnapshotTests {
    private static final Check CHECK = new Check("SnapshotTests");
    private static final String TEXT = "machine 2 10; times 31 11 9 12; vision 50 30 2; camera 77 88; alarm 3; wear 4 20 21; seed 8; nozzles 2 1;"
        + "kind 1; kind 0; feeder 0 10 20 20; feeder 1 20 20 20; spot 0 1 1; spot 0 2 2; spot 1 3 3; spot 1 4 4; before 0 1; before 2 3";

    public static void main(String[] args) {
        promise62();
        promise63();
        promise63Whole();
        promise63Layouts();
        CHECK.end();
    }

    private static void promise62() {
        PlacerHead x = Check.machine(TEXT);
        CHECK.same("saveSnapshot(1) at first", x.saveSnapshot(1), 0);
        x.run(5);
        CHECK.same("saveSnapshot(0)", x.saveSnapshot(0), x.now());
        CHECK.argument("saveSnapshot(2)", () -> x.saveSnapshot(2));
        CHECK.argument("saveSnapshot(-1)", () -> x.saveSnapshot(-1));
    }

    private static void promise63() {
        PlacerHead x = Check.machine(TEXT);
        x.run(5);
        int then = x.now();
        x.saveSnapshot(0);
        x.run(5);
        int later = x.now();
        CHECK.same("restoreSnapshot(1), nothing there", x.restoreSnapshot(1), PlacerHead.NONE);
        CHECK.same("now() stays", x.now(), later);
        CHECK.same("restoreSnapshot(0)", x.restoreSnapshot(0), then);
        CHECK.same("now()", x.now(), then);
        x.run(5);
        CHECK.same("now() again", x.now(), later);
        CHECK.same("restoreSnapshot(0): it stays", x.restoreSnapshot(0), then);
        x.run(5);
        x.saveSnapshot(0);
        x.run(5);
        CHECK.same("restoreSnapshot(0), a later one", x.restoreSnapshot(0), later);
        CHECK.argument("restoreSnapshot(2)", () -> x.restoreSnapshot(2));
        CHECK.argument("restoreSnapshot(-1)", () -> x.restoreSnapshot(-1));
        CHECK.same("append", x.append('m'), 1);
        x.restoreSnapshot(0);
        CHECK.same("append(0): the buffer is no part of it", x.append(0), 1);
        x.load();
        CHECK.same("loadError()", x.loadError(), 1);
        x.restoreSnapshot(0);
        CHECK.same("loadError(): the result is no part of it", x.loadError(), 1);
    }

    /** Restores a state that has gone through much, and goes on from it in the same way. */
    private static void promise63Whole() {
        for (int i = 0; i < 12; i++) {
            int steps = i;
            String then = Check.state(() -> behind(steps));
            String later = Check.state(() -> changed(behind(steps), steps));
            CHECK.no("the state has changed", then.equals(later));
            CHECK.text("the state as it was saved", Check.state(() -> restored(steps)), then);
            CHECK.text("it goes on as before", Check.state(() -> changed(restored(steps), steps)), later);
        }
    }

    /** Returns a machine that has gone through some changes, with a snapshot ahead of each. */
    private static PlacerHead behind(int steps) {
        PlacerHead x = Check.machine(TEXT);
        x.splice(0, 2);
        x.splice(1, 3);
        x.takeReel(1);
        for (int i = 0; i < steps; i++) {
            x.run(6);
            x.saveSnapshot(i % 2);
            change(x, i);
        }
        x.run(6);
        return x;
    }

    private static PlacerHead changed(PlacerHead x, int i) {
        change(x, i);
        return x;
    }

    private static PlacerHead restored(int steps) {
        PlacerHead x = behind(steps);
        x.saveSnapshot(steps % 2);
        change(x, steps);
        x.restoreSnapshot(steps % 2);
        return x;
    }

    private static void change(PlacerHead x, int i) {
        x.resume();
        x.run(9 + i);
        x.resume();
        x.splice(0, 5 + i);
        x.splice(1, 4);
        x.takeReel(0);
        x.set(0, 20 + i);
        x.setMiss(0, 10 + i);
        x.moveFeeder(1, 100 + i);
        x.leaveOut(1, i % 2 == 0);
        x.dropBefore(0, 1);
        x.addBefore(i % 4, 3);
        x.newBoard();
        x.run(30);
    }

    private static void promise63Layouts() {
        String first = Check.state(() -> ofTwoLayouts(0));
        String second = Check.state(() -> ofTwoLayouts(1));
        CHECK.text("the first description", Check.state(() -> ofTwoLayouts(2)), first);
        CHECK.text("the second description", Check.state(() -> ofTwoLayouts(3)), second);
        CHECK.text("the first description again", Check.state(() -> ofTwoLayouts(4)), first);
        PlacerHead x = ofTwoLayouts(2);
        CHECK.index("spotValue(4, 0)", () -> x.spotValue(4, 0));
        CHECK.index("spindleValue(2, 0)", () -> x.spindleValue(2, 0));
    }

    /** Saves a machine in slot 0 and another one in slot 1, and restores one, the other and the one again: so many of these steps. */
    private static PlacerHead ofTwoLayouts(int steps) {
        PlacerHead x = Check.machine(TEXT);
        x.run(7);
        x.saveSnapshot(0);
        if (steps > 0) {
            Check.type(x, "machine 4 1; nozzles 1 1 1; kind 2; kind 1; kind 0; feeder 2 5 5 5; feeder 0 7 7 7; feeder 1 8 8 8;"
                + "spot 2 9 9; spot 1 9 9; spot 2 9 9; spot 0 9 9; spot 0 9 9; before 4 0; before 3 1; before 0 2");
            CHECK.same("load()", x.load(), 5);
            x.run(20);
            x.saveSnapshot(1);
        }
        for (int i = 2; i <= steps; i++) {
            x.restoreSnapshot(i % 2);
        }
        return x;
    }
}
