import java.util.function.Consumer;
import java.util.function.IntConsumer;
import java.util.function.Supplier;
import java.util.function.ToIntFunction;

/**
 * Section 5 of the description: a call that throws or answers an error changes nothing; exceptions in the order in which they
 * are listed, ahead of errors; errors in the order in which they are named.
 */
public final class RefusalTests {
    private static final Check CHECK = new Check("RefusalTests");
    private static final int MIN = Integer.MIN_VALUE;
    private static final int MAX = Integer.MAX_VALUE;

    public static void main(String[] args) {
        new RefusalTests(PlacerHead::new, "a new object").everyException();
        new RefusalTests(RefusalTests::worked, "a small machine").everyException();
        new RefusalTests(RefusalTests::full, "a full machine").everyException();
        exceptionsInOrder();
        exceptionsAheadOfErrors();
        errorsOfReelsAndPairs();
        errorsOfNozzles();
        errorsOfPicks();
        errorsOfParts();
        errorsOfTheRest();
        errorsInOrder();
        loadsThatFail();
        CHECK.end();
    }

    private final Supplier<PlacerHead> machine;
    private final String on;
    private PlacerHead x;

    private RefusalTests(Supplier<PlacerHead> machine, String when) {
        this.machine = machine;
        on = when + ": ";
    }

    /** Spot 0 is filled and spot 3 left out, a reel waits, and spindle 1 holds a part of kind 1 that is not ready. */
    private static PlacerHead worked() {
        PlacerHead x = Check.machine("machine 2 10; vision 100 0 0; wear 9 9 9; nozzles 1 2; kind 0; kind 1; feeder 0 100 9 0;"
            + "feeder 1 200 9 0; spot 0 10 10; spot 1 20 20; spot 1 30 30; spot 0 40 40; before 1 2");
        x.changeNozzle(0, 0);
        x.pick(0, 0);
        x.look(0);
        x.place(0, 0);
        x.leaveOut(3, true);
        x.splice(0, 5);
        x.changeNozzle(1, 1);
        x.pick(1, 1);
        return x;
    }

    /** 4 spindles, 6 types, 8 kinds, 10 feeders, 40 spots, 20 pairs, 3 reels that wait, 40 entries in the log. */
    private static PlacerHead full() {
        PlacerHead x = Check.machine("machine 4 10;vision 100 0 0;nozzles 1 1 1 1 1 1" + ";kind 5".repeat(8) + ";feeder 7 9 99 0".repeat(10)
            + ";spot 7 9 9".repeat(40));
        for (int i = 0; i < 20; i++) {
            x.addBefore(i, i + 20);
        }
        for (int i = 0; i < 3; i++) {
            x.splice(9, i);
        }
        x.run(45);
        return x;
    }

    private void indexed(String call, int size, IntConsumer method) {
        int[] wrong = {-1, size, size + 1, 1000, MAX, MIN};
        for (int index : wrong) {
            CHECK.index(on + call + " with " + index, () -> method.accept(index));
        }
    }

    private void ranged(String call, int least, int most, IntConsumer method) {
        int[] wrong = {least - 1, most + 1, MAX, MIN};
        for (int value : wrong) {
            CHECK.argument(on + call + " with " + value, () -> method.accept(value));
        }
    }

    private void everyException() {
        String then = Check.state(machine);
        long waiting = machine.get().append(0);
        CHECK.text(on + "the state behind exceptions for indices", Check.state(this::behindIndices), then);
        CHECK.text(on + "the state behind exceptions for ranges", Check.state(this::behindRanges), then);
        CHECK.same(on + "append(0) behind exceptions for indices", behindIndices().append(0), waiting);
        CHECK.same(on + "append(0) behind exceptions for ranges", behindRanges().append(0), waiting);
    }

    private PlacerHead behindIndices() {
        x = machine.get();
        indices();
        return x;
    }

    private PlacerHead behindRanges() {
        x = machine.get();
        ranges();
        if (x.count(4) > 0) {
            rangesOfThings();
        }
        return x;
    }

    private void indices() {
        int spindles = x.count(0);
        int kinds = x.count(2);
        int feeders = x.count(3);
        int spots = x.count(4);
        indexed("spindleValue(spindle, 0)", spindles, i -> x.spindleValue(i, 0));
        indexed("freeNozzles(type)", x.count(1), i -> x.freeNozzles(i));
        indexed("nozzleFor(kind)", kinds, i -> x.nozzleFor(i));
        indexed("feederValue(feeder, 0)", feeders, i -> x.feederValue(i, 0));
        indexed("splice(feeder, 1)", feeders, i -> x.splice(i, 1));
        indexed("takeReel(feeder)", feeders, i -> x.takeReel(i));
        indexed("setMiss(feeder, 1)", feeders, i -> x.setMiss(i, 1));
        indexed("moveFeeder(feeder, 1)", feeders, i -> x.moveFeeder(i, 1));
        indexed("nearestFeeder(kind)", kinds, i -> x.nearestFeeder(i));
        indexed("spotValue(spot, 0)", spots, i -> x.spotValue(i, 0));
        indexed("leaveOut(spot, true)", spots, i -> x.leaveOut(i, true));
        indexed("leaveOut(spot, false)", spots, i -> x.leaveOut(i, false));
        indexed("openSpots(kind)", kinds, i -> x.openSpots(i));
        indexed("addBefore(first, 0)", spots, i -> x.addBefore(i, 0));
        indexed("addBefore(0, second)", spots, i -> x.addBefore(0, i));
        indexed("addBefore(spot, spot)", spots, i -> x.addBefore(i, i));
        indexed("dropBefore(first, 0)", spots, i -> x.dropBefore(i, 0));
        indexed("dropBefore(0, second)", spots, i -> x.dropBefore(0, i));
        indexed("blockedBy(spot)", spots, i -> x.blockedBy(i));
        indexed("chain(spot)", spots, i -> x.chain(i));
        indexed("changeNozzle(spindle, 0)", spindles, i -> x.changeNozzle(i, 0));
        indexed("changeNozzle(0, type)", x.count(1), i -> x.changeNozzle(0, i));
        indexed("pick(spindle, 0)", spindles, i -> x.pick(i, 0));
        indexed("pick(0, feeder)", feeders, i -> x.pick(0, i));
        indexed("look(spindle)", spindles, i -> x.look(i));
        indexed("place(spindle, 0)", spindles, i -> x.place(i, 0));
        indexed("place(0, spot)", spots, i -> x.place(0, i));
        indexed("discard(spindle)", spindles, i -> x.discard(i));
        indexed("clean(spindle)", spindles, i -> x.clean(i));
        indexed("ledger(kind, 0)", kinds, i -> x.ledger(i, 0));
        indexed("shortage(kind)", kinds, i -> x.shortage(i));
        indexed("shortageFor(kind, 1)", kinds, i -> x.shortageFor(i, 1));
        indexed("runsOut(feeder)", feeders, i -> x.runsOut(i));
    }

    private void ranges() {
        ranged("count(what)", 0, 5, i -> x.count(i));
        ranged("setting(what)", 0, 14, i -> x.setting(i));
        ranged("set(what, 1)", 0, 14, i -> x.set(i, 1));
        for (int what = 8; what <= 10; what++) {
            int number = what;
            CHECK.argument(on + "set(" + what + ", 1)", () -> x.set(number, 1));
        }
        int[] most = {50, 200, 200, 200, 200, 100, 100, 5, 0, 0, 0, 20, 200, 100, 200};
        for (int what = 0; what <= 14; what++) {
            int number = what;
            ranged("set(" + what + ", value)", what == 0 ? 1 : 0, most[what], i -> x.set(number, i));
        }
        ranged("spindleValue(0, what)", 0, 7, i -> x.spindleValue(0, i));
        ranged("run(most)", 1, 500, i -> x.run(i));
        ranged("head(what)", 0, 1, i -> x.head(i));
        ranged("done(action)", 1, 6, i -> x.done(i));
        ranged("timeOf(action)", 1, 6, i -> x.timeOf(i));
        ranged("shareOf(action)", 1, 6, i -> x.shareOf(i));
        ranged("logEntry(0, what)", 0, 2, i -> x.logEntry(0, i));
        ranged("saveSnapshot(slot)", 0, 1, i -> x.saveSnapshot(i));
        ranged("restoreSnapshot(slot)", 0, 1, i -> x.restoreSnapshot(i));
    }

    private void rangesOfThings() {
        ranged("feederValue(0, what)", 0, 7, i -> x.feederValue(0, i));
        ranged("splice(0, parts)", 0, 500, i -> x.splice(0, i));
        ranged("setMiss(0, miss)", 0, 100, i -> x.setMiss(0, i));
        ranged("moveFeeder(0, x)", 0, 999, i -> x.moveFeeder(0, i));
        ranged("spotValue(0, what)", 0, 5, i -> x.spotValue(0, i));
        ranged("ledger(0, what)", 0, 6, i -> x.ledger(0, i));
        ranged("shortageFor(0, boards)", 1, 1000, i -> x.shortageFor(0, i));
    }

    private static void exceptionsInOrder() {
        PlacerHead x = worked();
        CHECK.index("spindleValue: no such spindle, no such what", () -> x.spindleValue(2, 8));
        CHECK.index("feederValue: no such feeder, no such what", () -> x.feederValue(2, 8));
        CHECK.index("splice: no such feeder, too many parts", () -> x.splice(2, 501));
        CHECK.index("setMiss: no such feeder, too great a MISS", () -> x.setMiss(2, 101));
        CHECK.index("moveFeeder: no such feeder, too great an X", () -> x.moveFeeder(2, 1000));
        CHECK.index("spotValue: no such spot, no such what", () -> x.spotValue(4, 6));
        CHECK.index("ledger: no such kind, no such what", () -> x.ledger(2, 7));
        CHECK.index("shortageFor: no such kind, no boards", () -> x.shortageFor(2, 0));
        PlacerHead none = new PlacerHead();
        CHECK.index("feederValue: no feeders, no such what", () -> none.feederValue(0, -1));
        CHECK.index("spotValue: no spots, no such what", () -> none.spotValue(0, -1));
        CHECK.index("ledger: no kinds, no such what", () -> none.ledger(0, -1));
        CHECK.index("shortageFor: no kinds, too many boards", () -> none.shortageFor(0, 1001));
    }

    private static void exceptionsAheadOfErrors() {
        Supplier<PlacerHead> threeWait = behind(RefusalTests::worked, x -> x.splice(0, 1), x -> x.splice(0, 1));
        String behindExceptions = Check.state(() -> {
            PlacerHead x = threeWait.get();
            CHECK.argument("splice: 3 wait, too many parts", () -> x.splice(0, 501));
            CHECK.index("changeNozzle: a part is held, no such type", () -> x.changeNozzle(1, 2));
            CHECK.index("pick: a part is held, no such feeder", () -> x.pick(1, 2));
            CHECK.index("place: no part is held, no such spot", () -> x.place(0, 4));
            CHECK.index("addBefore: the same spot, which is none", () -> x.addBefore(4, 4));
            CHECK.argument("logEntry: no such entry, no such what", () -> x.logEntry(40, 3));
            CHECK.argument("restoreSnapshot: nothing saved, no such slot", () -> x.restoreSnapshot(2));
            return x;
        });
        CHECK.text("the state behind exceptions", behindExceptions, Check.state(threeWait));
        PlacerHead done = new PlacerHead();
        CHECK.argument("shareOf: at time 0, no such action", () -> done.shareOf(7));
        CHECK.argument("run: the plan has ended, too many", () -> done.run(501));
        CHECK.argument("run: the plan has ended, none", () -> done.run(0));
    }

    /** A machine that goes through some calls each time it is made anew. */
    @SafeVarargs
    private static Supplier<PlacerHead> behind(Supplier<PlacerHead> machine, Consumer<PlacerHead>... calls) {
        return () -> {
            PlacerHead x = machine.get();
            for (Consumer<PlacerHead> call : calls) {
                call.accept(x);
            }
            return x;
        };
    }

    private static void refused(Supplier<PlacerHead> machine, String call, ToIntFunction<PlacerHead> method, int due) {
        CHECK.same(call, method.applyAsInt(machine.get()), due);
        CHECK.text("the state behind " + call, Check.state(behind(machine, method::applyAsInt)), Check.state(machine));
    }

    private static void errorsOfReelsAndPairs() {
        Supplier<PlacerHead> x = RefusalTests::worked;
        refused(x, "takeReel(1), none waits", at -> at.takeReel(1), PlacerHead.NONE);
        Supplier<PlacerHead> threeWait = behind(x, at -> at.splice(0, 6), at -> at.splice(0, 7));
        refused(threeWait, "splice(0, 8), 3 wait", at -> at.splice(0, 8), PlacerHead.FULL);
        refused(x, "addBefore(0, 0)", at -> at.addBefore(0, 0), PlacerHead.CIRCLE);
        refused(x, "addBefore(2, 1)", at -> at.addBefore(2, 1), PlacerHead.CIRCLE);
        refused(x, "addBefore(1, 2), a pair already", at -> at.addBefore(1, 2), 1);
        refused(x, "dropBefore(2, 1), no pair", at -> at.dropBefore(2, 1) ? 1 : 0, 0);
        refused(x, "leaveOut(0, true), filled", at -> at.leaveOut(0, true) ? 1 : 0, 0);
        refused(x, "leaveOut(0, false), filled", at -> at.leaveOut(0, false) ? 1 : 0, 0);
        refused(x, "leaveOut(1, false), open", at -> at.leaveOut(1, false) ? 1 : 0, 0);
        refused(x, "leaveOut(3, true), left out", at -> at.leaveOut(3, true) ? 1 : 0, 0);
        Supplier<PlacerHead> y = RefusalTests::full;
        refused(y, "addBefore(0, 39), a 21st pair", at -> at.addBefore(0, 39), PlacerHead.FULL);
        refused(y, "addBefore(0, 20), a pair already, of 20", at -> at.addBefore(0, 20), 20);
        refused(y, "splice(9, 0), 3 wait", at -> at.splice(9, 0), PlacerHead.FULL);
    }

    private static void errorsOfNozzles() {
        Supplier<PlacerHead> x = RefusalTests::worked;
        refused(x, "changeNozzle(1, 0), a part is held", at -> at.changeNozzle(1, 0), PlacerHead.WRONG_STATE);
        refused(x, "changeNozzle(0, 0), of this type", at -> at.changeNozzle(0, 0), PlacerHead.MISMATCH);
        refused(x, "clean(1), a part is held", at -> at.clean(1), PlacerHead.WRONG_STATE);
        Supplier<PlacerHead> y = () -> Check.machine("machine 2 10; nozzles 1; kind 0; feeder 0 100 9 0");
        refused(y, "clean(0), no nozzle", at -> at.clean(0), PlacerHead.EMPTY);
        Supplier<PlacerHead> noneLeft = behind(y, at -> at.changeNozzle(1, 0));
        refused(noneLeft, "changeNozzle(0, 0), none left", at -> at.changeNozzle(0, 0), PlacerHead.EMPTY);
        refused(noneLeft, "clean(0), no nozzle yet", at -> at.clean(0), PlacerHead.EMPTY);
    }

    private static void errorsOfPicks() {
        Supplier<PlacerHead> x = () -> Check.machine("machine 1 10; nozzles 1 1; kind 0; kind 1; feeder 0 100 9 0; feeder 1 100 9 0;"
            + "feeder 0 9 0 0");
        refused(x, "pick(0, 0), no nozzle", at -> at.pick(0, 0), PlacerHead.MISMATCH);
        Supplier<PlacerHead> y = behind(x, at -> at.changeNozzle(0, 0));
        refused(y, "pick(0, 1), another nozzle", at -> at.pick(0, 1), PlacerHead.MISMATCH);
        refused(y, "pick(0, 2), no parts", at -> at.pick(0, 2), PlacerHead.EMPTY);
        Supplier<PlacerHead> spliced = behind(y, at -> at.splice(2, 0));
        refused(spliced, "pick(0, 2), spliced without parts", at -> at.pick(0, 2), PlacerHead.EMPTY);
        CHECK.same("the splice stays", behind(spliced, at -> at.pick(0, 2)).get().feederValue(2, 7), 1);
        refused(behind(y, at -> at.pick(0, 0)), "pick(0, 0), a part is held", at -> at.pick(0, 0), PlacerHead.WRONG_STATE);
    }

    private static void errorsOfParts() {
        Supplier<PlacerHead> x = () -> Check.machine("machine 1 10; vision 100 0 0; nozzles 1; kind 0; kind 0; feeder 0 100 9 0;"
            + "spot 0 10 10; spot 1 20 20; spot 0 30 30; spot 0 40 40; before 0 2");
        refused(x, "look(0), no part", at -> at.look(0), PlacerHead.WRONG_STATE);
        refused(x, "place(0, 0), no part", at -> at.place(0, 0), PlacerHead.WRONG_STATE);
        refused(x, "discard(0), no part", at -> at.discard(0), PlacerHead.WRONG_STATE);
        Supplier<PlacerHead> without = behind(x, at -> at.changeNozzle(0, 0));
        refused(without, "look(0), a nozzle, but no part", at -> at.look(0), PlacerHead.WRONG_STATE);
        refused(without, "place(0, 0), a nozzle, but no part", at -> at.place(0, 0), PlacerHead.WRONG_STATE);
        refused(without, "discard(0), a nozzle, but no part", at -> at.discard(0), PlacerHead.WRONG_STATE);
        Supplier<PlacerHead> picked = behind(without, at -> at.pick(0, 0));
        refused(picked, "place(0, 0), not ready", at -> at.place(0, 0), PlacerHead.WRONG_STATE);
        Supplier<PlacerHead> ready = behind(picked, at -> at.look(0));
        refused(ready, "look(0), ready", at -> at.look(0), PlacerHead.WRONG_STATE);
        refused(ready, "place(0, 1), another kind", at -> at.place(0, 1), PlacerHead.MISMATCH);
        refused(ready, "place(0, 2), blocked", at -> at.place(0, 2), PlacerHead.BLOCKED);
        refused(behind(ready, at -> at.leaveOut(3, true)), "place(0, 3), left out", at -> at.place(0, 3), PlacerHead.WRONG_STATE);
        Supplier<PlacerHead> again = behind(ready, at -> at.place(0, 0), at -> at.pick(0, 0), at -> at.look(0));
        refused(again, "place(0, 0), filled", at -> at.place(0, 0), PlacerHead.WRONG_STATE);
    }

    private static void errorsOfTheRest() {
        Supplier<PlacerHead> x = PlacerHead::new;
        refused(x, "step(), the plan has ended", PlacerHead::step, PlacerHead.NONE);
        refused(x, "run(500), the plan has ended", at -> at.run(500), 0);
        refused(x, "nextAction(), the plan has ended", PlacerHead::nextAction, PlacerHead.NONE);
        refused(x, "restoreSnapshot(0), nothing saved", at -> at.restoreSnapshot(0), PlacerHead.NONE);
        refused(x, "logEntry(0, 0), no entries", at -> at.logEntry(0, 0), PlacerHead.NONE);
        Supplier<PlacerHead> y = RefusalTests::worked;
        refused(y, "restoreSnapshot(1), nothing saved", at -> at.restoreSnapshot(1), PlacerHead.NONE);
        Supplier<PlacerHead> halted = behind(y, at -> at.set(5, 0), at -> at.set(11, 1), at -> at.look(1));
        CHECK.yes("isHalted()", halted.get().isHalted());
        refused(halted, "step(), halted", PlacerHead::step, PlacerHead.NONE);
        refused(halted, "run(500), halted", at -> at.run(500), 0);
        Supplier<PlacerHead> z = behind(PlacerHead::new, at -> Check.type(at, " ".repeat(898)));
        refused(z, "append of three bytes at 898", at -> at.append(0x202020), PlacerHead.FULL);
        CHECK.same("append of two bytes at 898", behind(z, at -> at.append(0x202020)).get().append(0x2020), 900);
        Supplier<PlacerHead> full = behind(z, at -> at.append(0x2020));
        refused(full, "append of a byte at 900", at -> at.append(0x20), PlacerHead.FULL);
        CHECK.same("append(0) at 900", behind(full, at -> at.append(0x20)).get().append(0), 900);
    }

    private static void errorsInOrder() {
        PlacerHead x = Check.machine("machine 2 10; vision 100 0 0; nozzles 1; nozzles 1; kind 0; kind 1; feeder 0 100 1 0; feeder 1 100 0 0;"
            + "spot 0 10 10; spot 1 20 20; spot 0 30 30; before 2 0; before 2 1");
        CHECK.same("pick(0, 1): another nozzle, no parts", x.pick(0, 1), PlacerHead.MISMATCH);
        x.changeNozzle(0, 0);
        CHECK.same("changeNozzle(0, 0): of this type, none left", x.changeNozzle(0, 0), PlacerHead.MISMATCH);
        CHECK.same("place(0, 0): no part, blocked", x.place(0, 0), PlacerHead.WRONG_STATE);
        CHECK.same("place(0, 1): no part, blocked", x.place(0, 1), PlacerHead.WRONG_STATE);
        x.pick(0, 0);
        CHECK.same("changeNozzle(0, 0): a part, of this type, none left", x.changeNozzle(0, 0), PlacerHead.WRONG_STATE);
        CHECK.same("changeNozzle(0, 1): a part", x.changeNozzle(0, 1), PlacerHead.WRONG_STATE);
        CHECK.same("pick(0, 1): a part, another nozzle, no parts", x.pick(0, 1), PlacerHead.WRONG_STATE);
        CHECK.same("pick(0, 0): a part, no parts", x.pick(0, 0), PlacerHead.WRONG_STATE);
        CHECK.same("place(0, 1): not ready, another kind, blocked", x.place(0, 1), PlacerHead.WRONG_STATE);
        CHECK.same("place(0, 0): not ready, blocked", x.place(0, 0), PlacerHead.WRONG_STATE);
        x.look(0);
        CHECK.same("place(0, 1): another kind, blocked", x.place(0, 1), PlacerHead.MISMATCH);
        x.leaveOut(1, true);
        CHECK.same("place(0, 1): left out, another kind, blocked", x.place(0, 1), PlacerHead.WRONG_STATE);
        x.leaveOut(0, true);
        CHECK.same("place(0, 0): left out, blocked", x.place(0, 0), PlacerHead.WRONG_STATE);
        PlacerHead y = full();
        CHECK.same("addBefore(20, 0): a circle, 20 pairs", y.addBefore(20, 0), PlacerHead.CIRCLE);
        CHECK.same("addBefore(39, 39): the same spot, 20 pairs", y.addBefore(39, 39), PlacerHead.CIRCLE);
    }

    private static void loadsThatFail() {
        String[] marked = {"|", "machine|", "machine |5 1", "machine 1 1;nozzles 4;kind 0;feeder 0 1 1 1;spot 0 1 1;before 0 |0",
            "machine 1 1;nozzles 1 1 1 1 1 1 |1", "machine 4 1;alarm 1;seed 5;nozzles 1;kind 0;feeder 0 1 1 1;spot 0 1 1;|", "|\u00ff"};
        int[] errors = {1, 1, 2, 4, 3, 1, 1};
        for (int i = 0; i < marked.length; i++) {
            int position = marked[i].indexOf('|');
            String text = marked[i].substring(0, position) + marked[i].substring(position + 1);
            Supplier<PlacerHead> typed = behind(RefusalTests::worked, at -> Check.type(at, text));
            refused(typed, "load() of \"" + text + "\"", PlacerHead::load, -100 - position);
            PlacerHead x = behind(typed, PlacerHead::load).get();
            CHECK.same("loadError() of \"" + text + "\"", x.loadError(), errors[i]);
            CHECK.same("append(0) behind \"" + text + "\"", x.append(0), 0);
        }
    }
}
