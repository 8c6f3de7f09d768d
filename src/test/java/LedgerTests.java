/** Promises 39 to 48: the ledger, the times and the log. */
public final class LedgerTests {
    private static final Check CHECK = new Check("LedgerTests");

    public static void main(String[] args) {
        promise39();
        promise40();
        promise41();
        promise42();
        promise43();
        promise44();
        promise45();
        promise46();
        promise47();
        promise48();
        CHECK.end();
    }

    private static void ledger(PlacerHead x, String when, int kind, int... want) {
        for (int what = 0; what < want.length; what++) {
            CHECK.same(when + ": ledger(" + kind + ", " + what + ")", x.ledger(kind, what), want[what]);
        }
        CHECK.yes(when + ": isBalanced()", x.isBalanced());
    }

    private static void promise39() {
        PlacerHead x = Check.machine("machine 2 10; vision 100 0 0; nozzles 2; kind 0; kind 0; feeder 1 100 5 0; feeder 1 200 2 0; feeder 0 1 7 0;"
            + "spot 1 1 1; spot 1 2 2");
        ledger(x, "at first", 1, 7, 7, 0, 0, 0, 0, 0);
        ledger(x, "at first", 0, 7, 7, 0, 0, 0, 0, 0);
        x.splice(0, 10);
        x.splice(0, 3);
        ledger(x, "reels", 1, 20, 20, 0, 0, 0, 0, 0);
        x.takeReel(0);
        ledger(x, "one taken away", 1, 20, 17, 0, 0, 0, 0, 3);
        x.changeNozzle(0, 0);
        x.changeNozzle(1, 0);
        x.pick(0, 0);
        x.pick(1, 1);
        ledger(x, "two held", 1, 20, 15, 2, 0, 0, 0, 3);
        x.look(0);
        x.place(0, 0);
        ledger(x, "one placed", 1, 20, 15, 1, 1, 0, 0, 3);
        x.newBoard();
        ledger(x, "a new board", 1, 20, 15, 1, 1, 0, 0, 3);
        x.discard(1);
        ledger(x, "one discarded", 1, 20, 15, 0, 1, 1, 0, 3);
        x.setMiss(0, 100);
        x.pick(0, 0);
        ledger(x, "one lost", 1, 20, 14, 0, 1, 1, 1, 3);
        x.set(5, 0);
        x.pick(1, 1);
        x.look(1);
        ledger(x, "one rejected", 1, 20, 13, 0, 1, 2, 1, 3);
        ledger(x, "the other kind", 0, 7, 7, 0, 0, 0, 0, 0);
        CHECK.index("ledger(2, 0)", () -> x.ledger(2, 0));
        CHECK.index("ledger(-1, 9)", () -> x.ledger(-1, 9));
        CHECK.argument("ledger(0, 7)", () -> x.ledger(0, 7));
        CHECK.argument("ledger(0, -1)", () -> x.ledger(0, -1));
    }

    private static void promise40() {
        CHECK.yes("isBalanced() of a new object", new PlacerHead().isBalanced());
        PlacerHead x = Check.machine("machine 4 10; vision 50 20 2; wear 5 10 3; seed 9; nozzles 2 2; kind 0; kind 1; feeder 1 100 50 20;"
            + "feeder 0 200 30 20; spot 1 1 1; spot 1 2 2; spot 0 3 3; spot 0 4 4");
        for (int i = 0; i < 40; i++) {
            x.run(7);
            x.splice(i % 2, i);
            if (i % 5 == 0) {
                x.takeReel(1 - i % 2);
            }
            if (i % 3 == 0) {
                x.newBoard();
            }
            CHECK.yes("isBalanced()", x.isBalanced());
        }
    }

    private static PlacerHead worked() {
        PlacerHead x = Check.machine("machine 1 10; times 30 10 8 12; vision 100 0 0; wear 0 0 21; nozzles 1; kind 0; feeder 0 100 9 0; spot 0 310 420");
        x.changeNozzle(0, 0);
        x.pick(0, 0);
        x.look(0);
        x.place(0, 0);
        x.clean(0);
        x.pick(0, 0);
        x.discard(0);
        return x;
    }

    private static void promise41() {
        CHECK.same("now()", worked().now(), 30 + 20 + 48 + 54 + 63 + 20);
    }

    private static void promise42() {
        PlacerHead x = Check.machine("machine 1 10; vision 100 0 0; nozzles 1; kind 0; feeder 0 100 9 0; spot 0 310 420");
        x.run(3);
        CHECK.same("head(0) at the camera", x.head(0), 500);
        x.run(1);
        CHECK.same("head(0) at the spot", x.head(0), 310);
        CHECK.same("head(1) at the spot", x.head(1), 420);
        x.pick(0, 0);
        CHECK.same("head(0) at the feeder", x.head(0), 100);
        CHECK.same("head(1) at the feeder", x.head(1), 0);
        CHECK.argument("head(2)", () -> x.head(2));
        CHECK.argument("head(-1)", () -> x.head(-1));
    }

    private static void promise43() {
        PlacerHead x = worked();
        int[] done = {1, 2, 1, 1, 1, 1};
        for (int action = 1; action <= 6; action++) {
            CHECK.same("done(" + action + ")", x.done(action), done[action - 1]);
        }
        x.place(0, 0);
        CHECK.same("done(4) behind an error", x.done(4), 1);
        x.setMiss(0, 100);
        x.pick(0, 0);
        CHECK.same("done(2) behind a pick that fails", x.done(2), 3);
        CHECK.argument("done(0)", () -> x.done(0));
        CHECK.argument("done(7)", () -> x.done(7));
        CHECK.argument("done(-1)", () -> x.done(-1));
    }

    private static void promise44() {
        PlacerHead x = worked();
        int[] spent = {30, 40, 48, 54, 0, 63};
        for (int action = 1; action <= 6; action++) {
            CHECK.same("timeOf(" + action + ")", x.timeOf(action), spent[action - 1]);
        }
        CHECK.argument("timeOf(0)", () -> x.timeOf(0));
        CHECK.argument("timeOf(7)", () -> x.timeOf(7));
    }

    private static void promise45() {
        PlacerHead x = worked();
        int[] share = {127, 170, 204, 229, 0, 268};
        for (int action = 1; action <= 6; action++) {
            CHECK.same("shareOf(" + action + ")", x.shareOf(action), share[action - 1]);
        }
        CHECK.argument("shareOf(0)", () -> x.shareOf(0));
        CHECK.argument("shareOf(7)", () -> x.shareOf(7));
        PlacerHead y = new PlacerHead();
        CHECK.same("shareOf(1) at time 0", y.shareOf(1), PlacerHead.NONE);
        CHECK.argument("shareOf(0) at time 0", () -> y.shareOf(0));
        PlacerHead still = Check.machine("machine 1 1; times 0 0 0 0; nozzles 1 1; kind 0");
        still.changeNozzle(0, 0);
        CHECK.same("shareOf(1) at time 0, done once", still.shareOf(1), PlacerHead.NONE);
        CHECK.same("timeOf(1) at time 0, done once", still.timeOf(1), 0);
        still.set(1, 1);
        still.changeNozzle(0, 1);
        CHECK.same("shareOf(1) at time 1", still.shareOf(1), 1000);
        CHECK.same("shareOf(2) at time 1", still.shareOf(2), 0);
        PlacerHead z = Check.machine("machine 1 1; times 200 200 200 200; vision 0 0 0; camera 999 0; nozzles 1; kind 0;"
            + "feeder 0 0 500 0; spot 0 1 1");
        for (int i = 0; i < 20; i++) {
            z.run(500);
            z.splice(0, 500);
        }
        CHECK.yes("now() beyond two million", z.now() > 3000000);
        CHECK.same("shareOf(3) of a long time", z.shareOf(3), 1000L * z.timeOf(3) / z.now());
        CHECK.yes("shareOf(3) of a long time", z.shareOf(3) > 400);
    }

    private static void promise46() {
        PlacerHead x = Check.machine("machine 1 10; vision 100 0 5; nozzles 1; kind 0; feeder 0 100 9 0; spot 0 310 420");
        CHECK.same("lookRate() without looks", x.lookRate(), PlacerHead.NONE);
        x.run(3);
        CHECK.same("lookRate()", x.lookRate(), 1000);
        x.discard(0);
        x.set(5, 0);
        x.set(6, 100);
        x.pick(0, 0);
        x.look(0);
        CHECK.same("lookRate(), uncertain", x.lookRate(), 500);
        x.set(6, 0);
        x.look(0);
        CHECK.same("lookRate(), rejected", x.lookRate(), 333);
        x.pick(0, 0);
        x.set(5, 100);
        x.look(0);
        CHECK.same("lookRate(), one more", x.lookRate(), 500);
    }

    private static void promise47() {
        PlacerHead x = Check.machine("machine 1 10; vision 0 0 0; nozzles 1; kind 0; feeder 0 100 500 0; spot 0 310 420");
        CHECK.same("logSize()", x.logSize(), 0);
        x.pick(0, 0);
        CHECK.same("logSize() behind an error", x.logSize(), 0);
        for (int i = 1; i <= 39; i++) {
            x.step();
            CHECK.same("logSize()", x.logSize(), i);
        }
        x.step();
        CHECK.same("logSize()", x.logSize(), 40);
        x.step();
        CHECK.same("logSize(), a 41st", x.logSize(), 40);
        x.timeAtEnd();
        CHECK.same("logSize() behind a prediction", x.logSize(), 40);
    }

    private static void promise48() {
        PlacerHead x = Check.machine("machine 2 10; vision 0 0 0; nozzles 1; kind 0; feeder 0 100 500 0; spot 0 310 420");
        CHECK.same("logEntry(0, 0) without one", x.logEntry(0, 0), PlacerHead.NONE);
        x.changeNozzle(1, 0);
        x.pick(1, 0);
        x.step();
        int[] actions = {10100, 20100, 30100};
        int[] results = {1, 1, 2};
        int[] ends = {30, 50, 98};
        for (int index = 0; index < 3; index++) {
            CHECK.same("logEntry(" + index + ", 0)", x.logEntry(index, 0), actions[index]);
            CHECK.same("logEntry(" + index + ", 1)", x.logEntry(index, 1), results[index]);
            CHECK.same("logEntry(" + index + ", 2)", x.logEntry(index, 2), ends[index]);
        }
        CHECK.same("logEntry(3, 0)", x.logEntry(3, 0), PlacerHead.NONE);
        CHECK.same("logEntry(-1, 0)", x.logEntry(-1, 0), PlacerHead.NONE);
        CHECK.same("logEntry(MIN, 2)", x.logEntry(Integer.MIN_VALUE, 2), PlacerHead.NONE);
        CHECK.same("logEntry(MAX, 2)", x.logEntry(Integer.MAX_VALUE, 2), PlacerHead.NONE);
        CHECK.argument("logEntry(0, 3)", () -> x.logEntry(0, 3));
        CHECK.argument("logEntry(0, -1)", () -> x.logEntry(0, -1));
        CHECK.argument("logEntry(9, -1)", () -> x.logEntry(9, -1));
        // behind 98: pick, look and so on, each 40 and 10, 40 and 8
        x.run(60);
        CHECK.same("logEntry(0, 0), the oldest of 40", x.logEntry(0, 0), 20100);
        CHECK.same("logEntry(0, 2)", x.logEntry(0, 2), 98 + 98 * 10 + 50);
        CHECK.same("logEntry(39, 0)", x.logEntry(39, 0), 30100);
        CHECK.same("logEntry(39, 2)", x.logEntry(39, 2), x.now());
        CHECK.same("logEntry(38, 1)", x.logEntry(38, 1), 1);
        CHECK.same("logEntry(39, 1)", x.logEntry(39, 1), 2);
        CHECK.same("logEntry(40, 1)", x.logEntry(40, 1), PlacerHead.NONE);
    }
}
