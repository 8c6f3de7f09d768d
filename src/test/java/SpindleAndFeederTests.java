/** Promises 8 to 16: spindles, nozzles and feeders. */
public final class SpindleAndFeederTests {
    private static final Check CHECK = new Check("SpindleAndFeederTests");

    public static void main(String[] args) {
        promise8();
        promise8Wear();
        promise9();
        promise10();
        promise11();
        promise11Lost();
        promise12();
        promise12EmptyReels();
        promise13();
        promise14();
        promise15();
        promise16();
        CHECK.end();
    }

    private static void spindle(PlacerHead x, String when, int spindle, int... want) {
        for (int what = 0; what < want.length; what++) {
            CHECK.same(when + ": spindleValue(" + spindle + ", " + what + ")", x.spindleValue(spindle, what), want[what]);
        }
    }

    private static void feeder(PlacerHead x, String when, int feeder, int... want) {
        for (int what = 0; what < want.length; what++) {
            CHECK.same(when + ": feederValue(" + feeder + ", " + what + ")", x.feederValue(feeder, what), want[what]);
        }
    }

    private static void promise8() {
        int seed = Check.seedFor(0, 99, 50, 79, 0, 49, 0, 99, 80, 99);
        PlacerHead x = Check.machine("machine 2 10; vision 50 30 3; seed " + seed + "; nozzles 1 1; kind 0; kind 1;"
            + "feeder 1 100 5 0; spot 1 10 10; spot 1 20 20");
        spindle(x, "at first", 1, -1, -1, 0, 0, 0, 0, 0, 0);
        x.changeNozzle(1, 1);
        spindle(x, "changed", 1, 1, -1, 0, 0, 0, 1, 0, 0);
        x.pick(1, 0);
        spindle(x, "picked", 1, 1, 1, 0, 0, 0, 1, 0, 1);
        CHECK.same("look(1), uncertain", x.look(1), 0);
        spindle(x, "uncertain", 1, 1, 1, 0, 1, 0, 1, 0, 1);
        CHECK.same("look(1), ready", x.look(1), 1);
        spindle(x, "ready", 1, 1, 1, 1, 2, 0, 1, 0, 1);
        x.place(1, 0);
        spindle(x, "placed", 1, 1, -1, 0, 0, 1, 1, 0, 1);
        x.pick(1, 0);
        CHECK.same("look(1), rejected", x.look(1), 2);
        spindle(x, "rejected", 1, 1, -1, 0, 0, 1, 1, 1, 2);
        x.pick(1, 0);
        x.discard(1);
        spindle(x, "discarded", 1, 1, -1, 0, 0, 1, 1, 2, 3);
        spindle(x, "the other one", 0, -1, -1, 0, 0, 0, 0, 0, 0);
        CHECK.index("spindleValue(2, 0)", () -> x.spindleValue(2, 0));
        CHECK.index("spindleValue(-1, 0)", () -> x.spindleValue(-1, 0));
        CHECK.index("spindleValue(-1, 9)", () -> x.spindleValue(-1, 9));
        CHECK.argument("spindleValue(0, 8)", () -> x.spindleValue(0, 8));
        CHECK.argument("spindleValue(0, -1)", () -> x.spindleValue(0, -1));
    }

    private static void promise8Wear() {
        PlacerHead x = Check.machine("machine 1 10; nozzles 1 1; kind 0; feeder 0 100 1 100; feeder 0 100 9 0");
        x.changeNozzle(0, 0);
        x.splice(0, 5);
        CHECK.same("pick(0, 0) that misses", x.pick(0, 0), 0);
        CHECK.same("wear behind a miss", x.spindleValue(0, 7), 1);
        CHECK.same("pick(0, 0) by the splice", x.pick(0, 0), 0);
        CHECK.same("wear behind a splice", x.spindleValue(0, 7), 1);
        x.pick(0, 1);
        CHECK.same("wear behind a part", x.spindleValue(0, 7), 2);
        x.discard(0);
        x.clean(0);
        CHECK.same("wear behind clean(0)", x.spindleValue(0, 7), 0);
        x.pick(0, 1);
        x.discard(0);
        x.changeNozzle(0, 1);
        CHECK.same("wear of another nozzle", x.spindleValue(0, 7), 0);
        CHECK.same("changes", x.spindleValue(0, 5), 2);
    }

    private static void promise9() {
        PlacerHead x = Check.machine("machine 2 10; nozzles 1 4; kind 0");
        CHECK.same("freeNozzles(0)", x.freeNozzles(0), 1);
        CHECK.same("freeNozzles(1)", x.freeNozzles(1), 4);
        x.changeNozzle(0, 1);
        x.changeNozzle(1, 1);
        CHECK.same("freeNozzles(1) of two that are used", x.freeNozzles(1), 2);
        x.changeNozzle(0, 0);
        CHECK.same("freeNozzles(0) then", x.freeNozzles(0), 0);
        CHECK.same("freeNozzles(1) then", x.freeNozzles(1), 3);
        CHECK.index("freeNozzles(2)", () -> x.freeNozzles(2));
        CHECK.index("freeNozzles(-1)", () -> x.freeNozzles(-1));
    }

    private static void promise10() {
        PlacerHead x = Check.machine("machine 2 10; nozzles 1 4 1; kind 2; kind 0; kind 1");
        CHECK.same("nozzleFor(0)", x.nozzleFor(0), 2);
        CHECK.same("nozzleFor(1)", x.nozzleFor(1), 0);
        CHECK.same("nozzleFor(2)", x.nozzleFor(2), 1);
        CHECK.index("nozzleFor(3)", () -> x.nozzleFor(3));
        CHECK.index("nozzleFor(-1)", () -> x.nozzleFor(-1));
    }

    private static void promise11() {
        PlacerHead x = Check.machine("machine 1 10; nozzles 1; kind 0; kind 0; feeder 1 123 2 0; feeder 0 45 500 67");
        feeder(x, "at first", 0, 1, 123, 2, 0, 0, 0, 0, 0);
        feeder(x, "at first", 1, 0, 45, 500, 67, 0, 0, 0, 0);
        x.changeNozzle(0, 0);
        x.splice(0, 4);
        x.splice(0, 6);
        feeder(x, "two wait", 0, 1, 123, 2, 0, 2, 0, 0, 0);
        x.pick(0, 0);
        x.discard(0);
        feeder(x, "one taken", 0, 1, 123, 1, 0, 2, 1, 0, 0);
        x.pick(0, 0);
        x.discard(0);
        feeder(x, "spliced", 0, 1, 123, 4, 0, 1, 2, 0, 1);
        CHECK.same("pick(0, 0) by the splice", x.pick(0, 0), 0);
        feeder(x, "failed", 0, 1, 123, 4, 0, 1, 2, 0, 0);
        CHECK.same("pick(0, 0) then", x.pick(0, 0), 1);
        feeder(x, "taken again", 0, 1, 123, 3, 0, 1, 3, 0, 0);
        CHECK.index("feederValue(2, 0)", () -> x.feederValue(2, 0));
        CHECK.index("feederValue(-1, 0)", () -> x.feederValue(-1, 0));
        CHECK.index("feederValue(2, 8)", () -> x.feederValue(2, 8));
        CHECK.argument("feederValue(0, 8)", () -> x.feederValue(0, 8));
        CHECK.argument("feederValue(0, -1)", () -> x.feederValue(0, -1));
    }

    private static void promise11Lost() {
        int seed = Check.seedFor(30, 30, 29, 29);
        PlacerHead x = Check.machine("machine 1 10; seed " + seed + "; nozzles 1; kind 0; feeder 0 100 2 30");
        x.changeNozzle(0, 0);
        CHECK.same("pick with a draw of MISS", x.pick(0, 0), 1);
        x.discard(0);
        x.splice(0, 9);
        CHECK.same("pick with a draw below MISS", x.pick(0, 0), 0);
        feeder(x, "one lost", 0, 0, 100, 9, 30, 0, 1, 1, 1);
        CHECK.same("spindleValue(0, 1) behind a miss", x.spindleValue(0, 1), PlacerHead.NONE);
        int before = x.setting(10);
        CHECK.same("pick by the splice", x.pick(0, 0), 0);
        CHECK.same("setting(10): a splice draws nothing", x.setting(10), before);
        wornLoss();
    }

    private static void wornLoss() {
        int seed = Check.seedFor(10, 40, 10, 40, 10, 40);
        PlacerHead x = Check.machine("machine 1 10; wear 2 35 20; seed " + seed + "; nozzles 1; kind 0; feeder 0 100 9 8");
        x.changeNozzle(0, 0);
        CHECK.same("pick with a new nozzle", x.pick(0, 0), 1);
        x.discard(0);
        CHECK.same("pick that makes it worn", x.pick(0, 0), 1);
        x.discard(0);
        CHECK.same("pick with a worn nozzle", x.pick(0, 0), 0);
        CHECK.same("wear then", x.spindleValue(0, 7), 3);
        PlacerHead y = Check.machine("machine 1 10; wear 0 100 20; nozzles 1; kind 0; feeder 0 100 9 0");
        y.changeNozzle(0, 0);
        CHECK.same("pick without LIMIT", y.pick(0, 0), 1);
    }

    private static void promise12() {
        PlacerHead x = Check.machine("machine 1 10; nozzles 1; kind 0; kind 0; feeder 1 123 2 0; feeder 1 45 0 0");
        CHECK.same("splice(0, 500)", x.splice(0, 500), 1);
        CHECK.same("splice(0, 0)", x.splice(0, 0), 2);
        CHECK.same("splice(0, 7)", x.splice(0, 7), 3);
        CHECK.same("splice(0, 8), a 4th", x.splice(0, 8), PlacerHead.FULL);
        CHECK.same("feederValue(0, 4) behind FULL", x.feederValue(0, 4), 3);
        CHECK.same("ledger(1, 0)", x.ledger(1, 0), 509);
        CHECK.same("ledger(1, 1)", x.ledger(1, 1), 509);
        CHECK.same("splice(1, 5) at once", x.splice(1, 5), 0);
        feeder(x, "spliced at once", 1, 1, 45, 5, 0, 0, 0, 0, 1);
        CHECK.index("splice(2, 1)", () -> x.splice(2, 1));
        CHECK.index("splice(-1, 501)", () -> x.splice(-1, 501));
        CHECK.argument("splice(0, 501)", () -> x.splice(0, 501));
        CHECK.argument("splice(0, -1)", () -> x.splice(0, -1));
        CHECK.argument("splice(1, 501)", () -> x.splice(1, 501));
    }

    private static void promise12EmptyReels() {
        PlacerHead x = Check.machine("machine 1 10; nozzles 1; kind 0; feeder 0 100 1 0; feeder 0 200 0 0");
        CHECK.same("splice(1, 0) at once", x.splice(1, 0), 0);
        feeder(x, "an empty reel", 1, 0, 200, 0, 0, 0, 0, 0, 1);
        x.splice(0, 0);
        x.splice(0, 0);
        x.splice(0, 6);
        x.changeNozzle(0, 0);
        CHECK.same("splicesAhead() without spots", x.splicesAhead(), 0);
        CHECK.same("pick of the last part", x.pick(0, 0), 1);
        x.discard(0);
        feeder(x, "over two empty reels", 0, 0, 100, 6, 0, 0, 1, 0, 1);
        CHECK.same("pick by the splices", x.pick(0, 0), 0);
        CHECK.same("pick then: they fail once", x.pick(0, 0), 1);
        CHECK.same("the order of the reels", reelsInOrder(), 12);
    }

    private static int reelsInOrder() {
        PlacerHead x = Check.machine("machine 1 10; nozzles 1; kind 0; feeder 0 100 1 0");
        x.splice(0, 1);
        x.splice(0, 2);
        x.splice(0, 3);
        x.changeNozzle(0, 0);
        x.pick(0, 0);
        x.discard(0);
        int first = x.feederValue(0, 2);
        x.pick(0, 0);
        x.pick(0, 0);
        return 10 * first + x.feederValue(0, 2);
    }

    private static void promise13() {
        PlacerHead x = Check.machine("machine 1 10; nozzles 1; kind 0; kind 0; feeder 1 123 2 0");
        CHECK.same("takeReel(0) without one", x.takeReel(0), PlacerHead.NONE);
        x.splice(0, 5);
        x.splice(0, 0);
        x.splice(0, 7);
        CHECK.same("takeReel(0), the last one", x.takeReel(0), 7);
        CHECK.same("feederValue(0, 4)", x.feederValue(0, 4), 2);
        CHECK.same("ledger(1, 6)", x.ledger(1, 6), 7);
        CHECK.same("takeReel(0), without parts", x.takeReel(0), 0);
        CHECK.same("takeReel(0), the first one", x.takeReel(0), 5);
        CHECK.same("takeReel(0), none", x.takeReel(0), PlacerHead.NONE);
        CHECK.same("ledger(1, 6) then", x.ledger(1, 6), 12);
        CHECK.same("ledger(1, 0) then", x.ledger(1, 0), 14);
        CHECK.same("feederValue(0, 2): the reel stays", x.feederValue(0, 2), 2);
        CHECK.index("takeReel(1)", () -> x.takeReel(1));
        CHECK.index("takeReel(-1)", () -> x.takeReel(-1));
    }

    private static void promise14() {
        PlacerHead x = Check.machine("machine 1 10; nozzles 1; kind 0; feeder 0 123 2 40; feeder 0 1 1 1");
        CHECK.same("setMiss(0, 100)", x.setMiss(0, 100), 40);
        CHECK.same("setMiss(0, 0)", x.setMiss(0, 0), 100);
        CHECK.same("feederValue(0, 3)", x.feederValue(0, 3), 0);
        CHECK.same("feederValue(1, 3)", x.feederValue(1, 3), 1);
        CHECK.index("setMiss(2, 0)", () -> x.setMiss(2, 0));
        CHECK.index("setMiss(-1, -1)", () -> x.setMiss(-1, -1));
        CHECK.argument("setMiss(0, 101)", () -> x.setMiss(0, 101));
        CHECK.argument("setMiss(0, -1)", () -> x.setMiss(0, -1));
        CHECK.same("feederValue(0, 3) then", x.feederValue(0, 3), 0);
    }

    private static void promise15() {
        PlacerHead x = Check.machine("machine 1 10; nozzles 1; kind 0; feeder 0 123 2 40; feeder 0 1 1 1");
        CHECK.same("moveFeeder(0, 999)", x.moveFeeder(0, 999), 123);
        CHECK.same("moveFeeder(0, 0)", x.moveFeeder(0, 0), 999);
        CHECK.same("feederValue(0, 1)", x.feederValue(0, 1), 0);
        CHECK.same("feederValue(1, 1)", x.feederValue(1, 1), 1);
        CHECK.index("moveFeeder(2, 0)", () -> x.moveFeeder(2, 0));
        CHECK.index("moveFeeder(-1, -1)", () -> x.moveFeeder(-1, -1));
        CHECK.argument("moveFeeder(0, 1000)", () -> x.moveFeeder(0, 1000));
        CHECK.argument("moveFeeder(0, -1)", () -> x.moveFeeder(0, -1));
        x.changeNozzle(0, 0);
        x.moveFeeder(0, 55);
        x.pick(0, 0);
        CHECK.same("head(0) at the feeder that was moved", x.head(0), 55);
    }

    private static void promise16() {
        PlacerHead x = Check.machine("machine 1 50; nozzles 1; kind 0; kind 0; kind 0;"
            + "feeder 0 300 1 0; feeder 1 100 0 0; feeder 0 100 1 0; feeder 1 320 5 0; feeder 0 200 9 0; feeder 2 9 0 0");
        CHECK.same("nearestFeeder(0)", x.nearestFeeder(0), 2);
        CHECK.same("nearestFeeder(1), the nearer one is empty", x.nearestFeeder(1), 3);
        CHECK.same("nearestFeeder(2)", x.nearestFeeder(2), PlacerHead.NONE);
        x.changeNozzle(0, 0);
        x.pick(0, 4);
        CHECK.same("head(0)", x.head(0), 200);
        CHECK.same("nearestFeeder(0) at 200", x.nearestFeeder(0), 4);
        x.moveFeeder(4, 999);
        CHECK.same("nearestFeeder(0): both are as near", x.nearestFeeder(0), 0);
        x.moveFeeder(0, 301);
        CHECK.same("nearestFeeder(0): by the way, not by its time", x.nearestFeeder(0), 2);
        CHECK.index("nearestFeeder(3)", () -> x.nearestFeeder(3));
        CHECK.index("nearestFeeder(-1)", () -> x.nearestFeeder(-1));
    }
}
