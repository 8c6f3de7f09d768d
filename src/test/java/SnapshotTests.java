import java.util.function.BiConsumer;

/** Promises 62 and 63: snapshots. */
public final class SnapshotTests {
    private static final Check CHECK = new Check("SnapshotTests");
    private static final String TEXT = "machine 2 10; times 31 11 9 12; vision 50 30 2; camera 77 88; alarm 3; wear 4 20 21; seed 8; nozzles 2 1;"
        + "kind 1; kind 0; feeder 0 10 20 20; feeder 1 20 20 20; spot 0 1 1; spot 0 2 2; spot 1 3 3; spot 1 4 4; before 0 1; before 2 3";

    public static void main(String[] args) {
        promise62();
        promise63();
        promise63Whole();
        promise63Layouts();
        promise63Numbers();
        promise63Predictions();
        promise63Filled();
        CHECK.end();
    }

    private static void promise62() {
        PlacerHead x = Check.machine(TEXT);
        CHECK.same("saveSnapshot(1) at first", x.saveSnapshot(1), 0);
        x.run(5);
        CHECK.same("saveSnapshot(0)", x.saveSnapshot(0), x.now());
        CHECK.argument("saveSnapshot(2)", () -> x.saveSnapshot(2));
        CHECK.argument("saveSnapshot(-1)", () -> x.saveSnapshot(-1));
    }

    private static void promise63() {
        PlacerHead x = Check.machine(TEXT);
        x.run(5);
        int then = x.now();
        x.saveSnapshot(0);
        x.run(5);
        int later = x.now();
        CHECK.same("restoreSnapshot(1), nothing there", x.restoreSnapshot(1), PlacerHead.NONE);
        CHECK.same("now() stays", x.now(), later);
        CHECK.same("restoreSnapshot(0)", x.restoreSnapshot(0), then);
        CHECK.same("now()", x.now(), then);
        x.run(5);
        CHECK.same("now() again", x.now(), later);
        CHECK.same("restoreSnapshot(0): it stays", x.restoreSnapshot(0), then);
        x.run(5);
        x.saveSnapshot(0);
        x.run(5);
        CHECK.same("restoreSnapshot(0), a later one", x.restoreSnapshot(0), later);
        CHECK.argument("restoreSnapshot(2)", () -> x.restoreSnapshot(2));
        CHECK.argument("restoreSnapshot(-1)", () -> x.restoreSnapshot(-1));
        CHECK.same("append", x.append('m'), 1);
        x.restoreSnapshot(0);
        CHECK.same("append(0): the buffer is no part of it", x.append(0), 1);
        x.load();
        CHECK.same("loadError()", x.loadError(), 1);
        x.restoreSnapshot(0);
        CHECK.same("loadError(): the result is no part of it", x.loadError(), 1);
    }

    /** Restores a state that has gone through much, and goes on from it in the same way. */
    private static void promise63Whole() {
        for (int i = 0; i < 12; i++) {
            int steps = i;
            String then = Check.state(() -> behind(steps));
            String later = Check.state(() -> changed(behind(steps), steps));
            CHECK.no("the state has changed", then.equals(later));
            CHECK.text("the state as it was saved", Check.state(() -> restored(steps)), then);
            CHECK.text("it goes on as before", Check.state(() -> changed(restored(steps), steps)), later);
        }
    }

    /** Returns a machine that has gone through some changes, with a snapshot ahead of each. */
    private static PlacerHead behind(int steps) {
        PlacerHead x = Check.machine(TEXT);
        x.splice(0, 2);
        x.splice(1, 3);
        x.takeReel(1);
        for (int i = 0; i < steps; i++) {
            x.run(6);
            x.saveSnapshot(i % 2);
            change(x, i);
        }
        x.run(6);
        return x;
    }

    private static PlacerHead changed(PlacerHead x, int i) {
        change(x, i);
        return x;
    }

    private static PlacerHead restored(int steps) {
        PlacerHead x = behind(steps);
        x.saveSnapshot(steps % 2);
        change(x, steps);
        x.restoreSnapshot(steps % 2);
        return x;
    }

    private static void change(PlacerHead x, int i) {
        x.resume();
        x.run(9 + i);
        x.resume();
        x.splice(0, 5 + i);
        x.splice(1, 4);
        x.takeReel(0);
        x.set(0, 20 + i);
        x.setMiss(0, 10 + i);
        x.moveFeeder(1, 100 + i);
        x.leaveOut(1, i % 2 == 0);
        x.dropBefore(0, 1);
        x.addBefore(i % 4, 3);
        x.newBoard();
        x.run(30);
    }

    private static void promise63Layouts() {
        String first = Check.state(() -> ofTwoLayouts(0));
        String second = Check.state(() -> ofTwoLayouts(1));
        CHECK.text("the first description", Check.state(() -> ofTwoLayouts(2)), first);
        CHECK.text("the second description", Check.state(() -> ofTwoLayouts(3)), second);
        CHECK.text("the first description again", Check.state(() -> ofTwoLayouts(4)), first);
        PlacerHead x = ofTwoLayouts(2);
        CHECK.index("spotValue(4, 0)", () -> x.spotValue(4, 0));
        CHECK.index("spindleValue(2, 0)", () -> x.spindleValue(2, 0));
    }

    /** Saves a machine in slot 0 and another one in slot 1, and restores one, the other and the one again: so many of these steps. */
    private static PlacerHead ofTwoLayouts(int steps) {
        PlacerHead x = Check.machine(TEXT);
        x.run(7);
        x.saveSnapshot(0);
        if (steps > 0) {
            Check.type(x, "machine 4 1; nozzles 1 1 1; kind 2; kind 1; kind 0; feeder 2 5 5 5; feeder 0 7 7 7; feeder 1 8 8 8;"
                + "spot 2 9 9; spot 1 9 9; spot 2 9 9; spot 0 9 9; spot 0 9 9; before 4 0; before 3 1; before 0 2");
            CHECK.same("load()", x.load(), 5);
            x.run(20);
            x.saveSnapshot(1);
        }
        for (int i = 2; i <= steps; i++) {
            x.restoreSnapshot(i % 2);
        }
        return x;
    }

    /** Restores one description behind the load of another one. */
    private static PlacerHead restored(String text, String loaded) {
        PlacerHead x = Check.machine(text);
        x.saveSnapshot(1);
        Check.type(x, loaded);
        x.load();
        x.restoreSnapshot(1);
        return x;
    }

    private static final String SMALL = "machine 1 10; nozzles 1 1; kind 1; feeder 0 5 5 0; spot 0 5 5";
    private static final String LARGE = "machine 3 10; nozzles 1 2 3 3; kind 0; kind 1; kind 2; feeder 2 5 5 0; feeder 2 5 5 0; feeder 0 5 5 0;"
        + "spot 2 5 5; spot 1 5 5; spot 0 5 5; before 0 1";

    /** Spindles, types, kinds, feeders and spots are those of the snapshot, whatever was loaded between. */
    private static void promise63Numbers() {
        PlacerHead x = restored(SMALL, LARGE);
        numbers(x, (call, run) -> CHECK.index(call + ", of the large one", run));
        PlacerHead y = restored(LARGE, SMALL);
        numbers(y, (call, run) -> {
            run.run();
            CHECK.yes(call + ", which is there again", true);
        });
        PlacerHead z = restored(SMALL, LARGE);
        z.changeNozzle(0, 1);
        CHECK.same("pick(0, 0) of what needs type 1", z.pick(0, 0), 1);
    }

    /** Calls with numbers that the large description has and the small one has not. */
    private static void numbers(PlacerHead x, BiConsumer<String, Runnable> check) {
        check.accept("spindleValue(2, 0)", () -> x.spindleValue(2, 0));
        check.accept("freeNozzles(3)", () -> x.freeNozzles(3));
        check.accept("nozzleFor(2)", () -> x.nozzleFor(2));
        check.accept("feederValue(2, 0)", () -> x.feederValue(2, 0));
        check.accept("splice(2, 1)", () -> x.splice(2, 1));
        check.accept("takeReel(2)", () -> x.takeReel(2));
        check.accept("setMiss(2, 0)", () -> x.setMiss(2, 0));
        check.accept("moveFeeder(2, 0)", () -> x.moveFeeder(2, 0));
        check.accept("nearestFeeder(2)", () -> x.nearestFeeder(2));
        check.accept("spotValue(2, 0)", () -> x.spotValue(2, 0));
        check.accept("leaveOut(2, true)", () -> x.leaveOut(2, true));
        check.accept("openSpots(2)", () -> x.openSpots(2));
        check.accept("addBefore(0, 2)", () -> x.addBefore(0, 2));
        check.accept("addBefore(2, 0)", () -> x.addBefore(2, 0));
        check.accept("dropBefore(0, 2)", () -> x.dropBefore(0, 2));
        check.accept("dropBefore(2, 0)", () -> x.dropBefore(2, 0));
        check.accept("blockedBy(2)", () -> x.blockedBy(2));
        check.accept("chain(2)", () -> x.chain(2));
        check.accept("changeNozzle(0, 3)", () -> x.changeNozzle(0, 3));
        check.accept("changeNozzle(2, 0)", () -> x.changeNozzle(2, 0));
        check.accept("pick(0, 2)", () -> x.pick(0, 2));
        check.accept("pick(2, 0)", () -> x.pick(2, 0));
        check.accept("look(2)", () -> x.look(2));
        check.accept("place(0, 2)", () -> x.place(0, 2));
        check.accept("place(2, 0)", () -> x.place(2, 0));
        check.accept("discard(2)", () -> x.discard(2));
        check.accept("clean(2)", () -> x.clean(2));
        check.accept("ledger(2, 0)", () -> x.ledger(2, 0));
        check.accept("shortage(2)", () -> x.shortage(2));
        check.accept("shortageFor(2, 1)", () -> x.shortageFor(2, 1));
        check.accept("runsOut(2)", () -> x.runsOut(2));
    }

    /** Predictions, asked first behind restoreSnapshot(int), are those of the snapshot. */
    private static void promise63Predictions() {
        CHECK.same("runsOut(2)", restored(LARGE, SMALL).runsOut(2), PlacerHead.NONE);
        CHECK.same("shortage(2)", restored(LARGE, SMALL).shortage(2), 0);
        CHECK.same("boardsPossible()", restored(LARGE, SMALL).boardsPossible(), 0);
        CHECK.same("boardsPossible()", restored(SMALL, LARGE).boardsPossible(), 5);
        CHECK.same("dearestSpot()", restored(LARGE, "machine 1 1").dearestSpot(), Check.machine(LARGE).dearestSpot());
        CHECK.same("dearestSpot()", restored("machine 1 1", LARGE).dearestSpot(), PlacerHead.NONE);
        CHECK.same("bestSwap()", restored("machine 1 1", LARGE).bestSwap(), PlacerHead.NONE);
        CHECK.same("timeAtEnd()", restored(LARGE, SMALL).timeAtEnd(), Check.machine(LARGE).timeAtEnd());
        CHECK.same("timeAtEnd()", restored(SMALL, LARGE).timeAtEnd(), Check.machine(SMALL).timeAtEnd());
    }

    /** 40 spots, with their times and spindles. */
    private static PlacerHead filled() {
        StringBuilder text = new StringBuilder("machine 4 7; nozzles 4");
        for (int i = 0; i < 8; i++) {
            text.append(";kind 0;feeder ").append(i).append(' ').append(50 * i).append(" 99 5");
        }
        for (int i = 0; i < 40; i++) {
            text.append(";spot ").append(i * 3 % 8).append(' ').append(10 * i).append(' ').append(i * 17 % 40);
        }
        PlacerHead x = Check.machine(text.toString());
        x.run(500);
        return x;
    }

    private static PlacerHead filledAgain(boolean restored) {
        PlacerHead x = filled();
        x.saveSnapshot(0);
        x.newBoard();
        // as the times of moves are other ones, other spots are the nearest
        x.set(0, 50);
        x.run(500);
        if (restored) {
            x.restoreSnapshot(0);
        }
        return x;
    }

    private static void promise63Filled() {
        CHECK.same("filledSet()", filled().filledSet(), (1L << 40) - 1);
        String then = Check.state(SnapshotTests::filled);
        CHECK.text("all spots as they were saved", Check.state(() -> filledAgain(true)), then);
        PlacerHead x = filled();
        PlacerHead y = filledAgain(false);
        int others = 0;
        for (int spot = 0; spot < 40; spot++) {
            CHECK.yes("spotValue(" + spot + ", 4) is later on the second board", y.spotValue(spot, 4) > x.now());
            others += spot >= 8 && y.spotValue(spot, 5) != x.spotValue(spot, 5) ? 1 : 0;
        }
        CHECK.yes("other spindles on the second board", others > 0);
    }
}
