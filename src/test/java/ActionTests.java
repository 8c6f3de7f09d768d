/** Promises 28 to 38, and sections 2 to 4 of the description: the actions and the plan. */
public final class ActionTests {
    private static final Check CHECK = new Check("ActionTests");

    public static void main(String[] args) {
        promise28();
        promise29();
        promise30();
        promise30Edges();
        promise31();
        promise31Ways();
        promise32();
        promise33();
        promise34Loads();
        promise34Wanted();
        promise34Worn();
        promise34Looks();
        promise34Places();
        promise34Ways();
        promise35();
        promise36();
        promise37();
        promise37Counts();
        promise38();
        CHECK.end();
    }

    private static void promise28() {
        PlacerHead x = Check.machine("machine 3 10; nozzles 1 2; kind 0; kind 1; feeder 0 105 5 0; spot 0 300 300");
        CHECK.same("changeNozzle(0, 0)", x.changeNozzle(0, 0), 1);
        CHECK.same("now()", x.now(), 30);
        CHECK.same("changeNozzle(0, 0) again", x.changeNozzle(0, 0), PlacerHead.MISMATCH);
        CHECK.same("changeNozzle(1, 0), none left", x.changeNozzle(1, 0), PlacerHead.EMPTY);
        CHECK.same("changeNozzle(0, 1)", x.changeNozzle(0, 1), 1);
        CHECK.same("changeNozzle(1, 0), one came back", x.changeNozzle(1, 0), 1);
        CHECK.same("freeNozzles(0)", x.freeNozzles(0), 0);
        CHECK.same("freeNozzles(1)", x.freeNozzles(1), 1);
        x.pick(1, 0);
        int then = x.now();
        CHECK.same("changeNozzle(1, 0) with a part", x.changeNozzle(1, 0), PlacerHead.WRONG_STATE);
        CHECK.same("changeNozzle(1, 1) with a part", x.changeNozzle(1, 1), PlacerHead.WRONG_STATE);
        CHECK.same("now() behind errors", x.now(), then);
        CHECK.same("head(0) behind errors", x.head(0), 105);
        CHECK.same("logSize() behind errors", x.logSize(), 4);
        CHECK.same("changeNozzle(2, 1)", x.changeNozzle(2, 1), 1);
        CHECK.same("now(): the way is rounded up", x.now(), then + 11 + 30);
        CHECK.same("head(0)", x.head(0), 0);
        CHECK.index("changeNozzle(3, 0)", () -> x.changeNozzle(3, 0));
        CHECK.index("changeNozzle(-1, 0)", () -> x.changeNozzle(-1, 0));
        CHECK.index("changeNozzle(0, 2)", () -> x.changeNozzle(0, 2));
        CHECK.index("changeNozzle(0, -1)", () -> x.changeNozzle(0, -1));
    }

    private static void promise29() {
        PlacerHead x = Check.machine("machine 2 7; times 30 11 8 10; nozzles 1 2; kind 0; kind 1;"
            + "feeder 0 105 1 0; feeder 1 100 1 0; feeder 0 5 0 0; spot 0 300 300");
        CHECK.same("pick(0, 0) without a nozzle", x.pick(0, 0), PlacerHead.MISMATCH);
        CHECK.same("pick(0, 2) without a nozzle", x.pick(0, 2), PlacerHead.MISMATCH);
        x.changeNozzle(0, 0);
        CHECK.same("pick(0, 1) with another nozzle", x.pick(0, 1), PlacerHead.MISMATCH);
        CHECK.same("pick(0, 2) without parts", x.pick(0, 2), PlacerHead.EMPTY);
        CHECK.same("now() behind errors", x.now(), 30);
        CHECK.same("pick(0, 0)", x.pick(0, 0), 1);
        CHECK.same("now()", x.now(), 30 + 15 + 11);
        CHECK.same("head(0)", x.head(0), 105);
        CHECK.same("pick(0, 0) with a part", x.pick(0, 0), PlacerHead.WRONG_STATE);
        CHECK.same("pick(0, 1) with a part", x.pick(0, 1), PlacerHead.WRONG_STATE);
        x.discard(0);
        CHECK.same("pick(0, 0), the reel is empty", x.pick(0, 0), PlacerHead.EMPTY);
        x.splice(0, 0);
        CHECK.same("pick(0, 0), spliced without parts", x.pick(0, 0), PlacerHead.EMPTY);
        x.splice(0, 1);
        int then = x.now();
        CHECK.same("pick(0, 0) by the splice", x.pick(0, 0), 0);
        CHECK.same("now() behind a pick that fails", x.now(), then + 11);
        CHECK.same("pick(0, 0) then", x.pick(0, 0), 1);
        CHECK.index("pick(2, 0)", () -> x.pick(2, 0));
        CHECK.index("pick(-1, 0)", () -> x.pick(-1, 0));
        CHECK.index("pick(0, 3)", () -> x.pick(0, 3));
        CHECK.index("pick(0, -1)", () -> x.pick(0, -1));
    }

    private static String lookMachine(String vision, int seed) {
        return "machine 2 10; times 0 0 8 0; camera 33 71; vision " + vision + "; seed " + seed
            + "; nozzles 2; kind 0; feeder 0 0 50 0; spot 0 0 0";
    }

    private static void promise30() {
        PlacerHead x = Check.machine(lookMachine("60 30 2", Check.seedFor(0, 99, 60, 89, 60, 89, 0, 59)));
        CHECK.same("look(0) without a part", x.look(0), PlacerHead.WRONG_STATE);
        x.changeNozzle(0, 0);
        x.pick(0, 0);
        CHECK.same("look(0) again and again", x.look(0), 0);
        CHECK.same("now(): the greater difference counts", x.now(), 8 + 8);
        CHECK.same("head(0)", x.head(0), 33);
        CHECK.same("head(1)", x.head(1), 71);
        CHECK.same("look(0), a second one", x.look(0), 0);
        CHECK.same("now() without a way", x.now(), 8 + 8 + 8);
        CHECK.same("look(0), a third one", x.look(0), 1);
        CHECK.same("look(0), ready", x.look(0), PlacerHead.WRONG_STATE);
        CHECK.same("now() behind an error", x.now(), 32);
        CHECK.index("look(2)", () -> x.look(2));
        CHECK.index("look(-1)", () -> x.look(-1));
    }

    private static int lookOf(String vision, int drawn) {
        PlacerHead x = Check.machine(lookMachine(vision, Check.seedFor(0, 99, drawn, drawn)));
        x.changeNozzle(0, 0);
        x.pick(0, 0);
        return x.look(0);
    }

    private static void promise30Edges() {
        CHECK.same("a look with a draw below GOOD", lookOf("60 30 2", 59), 1);
        CHECK.same("a look with a draw of GOOD", lookOf("60 30 2", 60), 0);
        CHECK.same("a look with a draw below GOOD + AGAIN", lookOf("60 30 2", 89), 0);
        CHECK.same("a look with a draw of GOOD + AGAIN", lookOf("60 30 2", 90), 2);
        CHECK.same("a look again with RETRIES 0", lookOf("60 30 0", 70), 2);
        CHECK.same("a look again with RETRIES 1", lookOf("60 30 1", 70), 0);
        CHECK.same("a draw of 0 with GOOD 0", lookOf("0 0 5", 0), 2);
        CHECK.same("a draw of 99 with GOOD 100", lookOf("100 0 0", 99), 1);
        PlacerHead x = Check.machine(lookMachine("60 30 2", Check.seedFor(0, 99, 60, 89, 60, 89, 60, 89)));
        x.changeNozzle(0, 0);
        x.pick(0, 0);
        x.look(0);
        CHECK.same("a look that is no more than RETRIES", x.look(0), 0);
        CHECK.same("a look that is more than RETRIES", x.look(0), 2);
        CHECK.same("spindleValue(0, 1)", x.spindleValue(0, 1), PlacerHead.NONE);
    }

    private static void promise31() {
        PlacerHead x = Check.machine("machine 2 10; vision 100 0 0; nozzles 2; kind 0; kind 0; feeder 0 105 9 0; feeder 1 9 9 0;"
            + "spot 0 300 301; spot 1 2 2; spot 0 4 4; spot 1 1 1; before 0 2; before 0 3");
        CHECK.same("place(0, 0) without a part", x.place(0, 0), PlacerHead.WRONG_STATE);
        x.changeNozzle(0, 0);
        x.pick(0, 0);
        CHECK.same("place(0, 0), not ready", x.place(0, 0), PlacerHead.WRONG_STATE);
        x.look(0);
        x.leaveOut(0, true);
        CHECK.same("place(0, 0), left out", x.place(0, 0), PlacerHead.WRONG_STATE);
        x.leaveOut(0, false);
        CHECK.same("place(0, 1), another kind", x.place(0, 1), PlacerHead.MISMATCH);
        CHECK.same("place(0, 3), another kind and blocked", x.place(0, 3), PlacerHead.MISMATCH);
        CHECK.same("place(0, 2), blocked", x.place(0, 2), PlacerHead.BLOCKED);
        int then = x.now();
        CHECK.same("place(0, 0)", x.place(0, 0), 1);
        CHECK.same("now()", x.now(), then + 31 + 10);
        CHECK.same("head(0)", x.head(0), 300);
        CHECK.same("head(1)", x.head(1), 301);
        CHECK.same("spindleValue(0, 1)", x.spindleValue(0, 1), PlacerHead.NONE);
        x.pick(0, 1);
        x.look(0);
        CHECK.same("place(0, 0), filled, another kind", x.place(0, 0), PlacerHead.WRONG_STATE);
        CHECK.same("place(0, 3), not blocked now", x.place(0, 3), 1);
        CHECK.same("filledSet()", x.filledSet(), 9);
        CHECK.index("place(2, 0)", () -> x.place(2, 0));
        CHECK.index("place(-1, 0)", () -> x.place(-1, 0));
        CHECK.index("place(0, 4)", () -> x.place(0, 4));
        CHECK.index("place(0, -1)", () -> x.place(0, -1));
    }

    private static void promise31Ways() {
        PlacerHead x = Check.machine("machine 1 7; times 0 0 0 0; vision 100 0 0; camera 0 0; nozzles 2; kind 0; feeder 0 0 9 0;"
            + "spot 0 70 3; spot 0 3 71");
        x.changeNozzle(0, 0);
        x.pick(0, 0);
        x.look(0);
        x.place(0, 0);
        CHECK.same("now(): 70 by 7", x.now(), 10);
        x.pick(0, 0);
        x.look(0);
        CHECK.same("now(): 70 by 7 back", x.now(), 20);
        x.place(0, 1);
        CHECK.same("now(): 71 by 7, rounded up", x.now(), 31);
    }

    private static void promise32() {
        PlacerHead x = Check.machine("machine 2 10; nozzles 2; kind 0; feeder 0 105 9 0");
        CHECK.same("discard(0) without a part", x.discard(0), PlacerHead.WRONG_STATE);
        x.changeNozzle(0, 0);
        x.pick(0, 0);
        int then = x.now();
        int seed = x.setting(10);
        CHECK.same("discard(0)", x.discard(0), 1);
        CHECK.same("now()", x.now(), then);
        CHECK.same("head(0)", x.head(0), 105);
        CHECK.same("setting(10)", x.setting(10), seed);
        CHECK.same("ledger(0, 4)", x.ledger(0, 4), 1);
        CHECK.same("logEntry(2, 0)", x.logEntry(2, 0), 50000);
        CHECK.same("discard(0) again", x.discard(0), PlacerHead.WRONG_STATE);
        CHECK.index("discard(2)", () -> x.discard(2));
        CHECK.index("discard(-1)", () -> x.discard(-1));
    }

    private static void promise33() {
        PlacerHead x = Check.machine("machine 2 10; wear 2 100 15; nozzles 2; kind 0; feeder 0 105 9 0");
        CHECK.same("clean(0) without a nozzle", x.clean(0), PlacerHead.EMPTY);
        x.changeNozzle(0, 0);
        x.pick(0, 0);
        CHECK.same("clean(0) with a part", x.clean(0), PlacerHead.WRONG_STATE);
        x.discard(0);
        x.pick(0, 0);
        x.discard(0);
        CHECK.same("pick with a worn nozzle", x.pick(0, 0), 0);
        int then = x.now();
        CHECK.same("clean(0)", x.clean(0), 1);
        CHECK.same("now()", x.now(), then + 11 + 15);
        CHECK.same("head(0)", x.head(0), 0);
        CHECK.same("spindleValue(0, 7)", x.spindleValue(0, 7), 0);
        CHECK.same("spindleValue(0, 5)", x.spindleValue(0, 5), 1);
        CHECK.same("pick with a clean nozzle", x.pick(0, 0), 1);
        x.discard(0);
        CHECK.same("clean(0) that is not worn", x.clean(0), 1);
        CHECK.index("clean(2)", () -> x.clean(2));
        CHECK.index("clean(-1)", () -> x.clean(-1));
    }

    /** Steps, where each next action must be the one that is told. */
    private static void plan(PlacerHead x, String when, int... actions) {
        for (int action : actions) {
            CHECK.same(when + ": nextAction()", x.nextAction(), action);
            x.step();
        }
    }

    private static void promise34Loads() {
        PlacerHead x = Check.machine("machine 3 10; vision 100 0 0; nozzles 1 1; kind 1; kind 0; kind 1;"
            + "feeder 2 100 9 0; feeder 0 300 9 0; feeder 0 200 9 0; feeder 1 400 9 0;"
            + "spot 2 10 10; spot 0 20 20; spot 1 30 30");
        // spindle 0: the smallest kind, type 1; spindle 1: type 0 alone is left; spindle 2: no nozzle is left
        plan(x, "a full head", 10001, 20002, 10100, 20103, 30000, 30100, 40001, 20000, 30000, 40000, 40102);
        CHECK.same("nextAction() at the end", x.nextAction(), PlacerHead.NONE);
        PlacerHead y = Check.machine("machine 2 10; vision 100 0 0; nozzles 1 1; kind 1; kind 0;"
            + "feeder 0 100 1 0; feeder 1 400 9 0; spot 0 10 10; spot 1 30 30");
        plan(y, "the second kind", 10001, 20000, 10100, 20101);
        PlacerHead z = Check.machine("machine 2 10; nozzles 1 1; kind 0; kind 1; feeder 0 10 1 0; feeder 1 20 9 0; spot 1 10 10; spot 0 30 30");
        z.changeNozzle(0, 1);
        plan(z, "its own nozzle first", 20001, 10100, 20100);
        PlacerHead w = Check.machine("machine 2 10; nozzles 1 1; kind 0; kind 1; feeder 0 10 1 0; spot 0 10 10");
        w.changeNozzle(1, 0);
        plan(w, "the smallest spindle for which there is one", 20100);
    }

    private static void promise34Wanted() {
        String text = "machine 3 10; vision 100 0 0; nozzles 3; kind 0; kind 0; feeder 0 100 9 0; feeder 1 200 9 0;";
        PlacerHead x = Check.machine(text + "spot 0 10 10; spot 0 20 20; spot 1 30 30; before 0 1; before 0 2");
        plan(x, "blocked spots are not wanted", 10000, 20000, 30000, 40000, 20000, 10100, 20101);
        PlacerHead y = Check.machine(text + "spot 0 10 10; spot 1 30 30");
        y.leaveOut(0, true);
        plan(y, "spots that are left out are not wanted", 10000, 20001, 30000, 40001);
        CHECK.same("nextAction() at the end", y.nextAction(), PlacerHead.NONE);
        PlacerHead z = Check.machine("machine 1 10; nozzles 3; kind 0; kind 0; feeder 0 1 0 0; feeder 1 2 1 0; spot 0 1 1; spot 1 1 1");
        plan(z, "a kind without parts cannot be had", 10000, 20001);
        PlacerHead w = Check.machine("machine 2 10; vision 100 0 0; nozzles 3; kind 0; feeder 0 1 9 0; spot 0 1 1");
        plan(w, "a part on the head is enough for a spot", 10000, 20000, 30000, 40000);
        PlacerHead v = Check.machine("machine 2 10; nozzles 3; kind 0; feeder 0 100 1 0; feeder 0 300 9 0; feeder 0 100 1 0; spot 0 1 1; spot 0 2 2");
        plan(v, "the nearest feeder with parts", 10000, 20000, 10100, 20102);
    }

    private static void promise34Worn() {
        PlacerHead x = Check.machine("machine 2 10; vision 100 0 0; wear 1 0 20; nozzles 1 1; kind 0; kind 1; feeder 0 100 9 0; feeder 1 50 9 0;"
            + "spot 0 10 10; spot 0 20 20; spot 1 2 2");
        plan(x, "worn", 10000, 20000, 10101, 20101, 30000, 30100, 40001, 60000, 20000);
        PlacerHead y = Check.machine("machine 1 10; vision 100 0 0; wear 1 0 20; nozzles 1 1; kind 0; kind 1; feeder 0 100 9 0; feeder 1 50 9 0;"
            + "spot 0 10 10; spot 1 2 2");
        plan(y, "no clean ahead of a change", 10000, 20000, 30000, 40000, 10001, 20001);
    }

    private static void promise34Looks() {
        PlacerHead x = Check.machine("machine 2 10; vision 0 100 1; nozzles 2; kind 0; feeder 0 100 9 0; spot 0 10 10; spot 0 20 20");
        plan(x, "looks", 10000, 20000, 10100, 20100, 30000, 30000, 20000, 30000, 30000, 20000);
        PlacerHead y = Check.machine("machine 2 10; vision 100 0 0; nozzles 2; kind 0; feeder 0 100 2 0; spot 0 10 10; spot 0 20 20");
        y.changeNozzle(1, 0);
        y.pick(1, 0);
        y.look(1);
        plan(y, "only those that are not ready", 10000, 20000, 30000, 40001, 40100);
    }

    private static void promise34Places() {
        String text = "machine 2 10; vision 100 0 0; camera 100 0; nozzles 2; kind 0; kind 0; feeder 0 100 9 0; feeder 1 100 9 0;";
        PlacerHead x = Check.machine(text + "spot 0 100 18; spot 0 100 11; spot 0 100 8; spot 0 108 9; before 1 2; before 1 3");
        plan(x, "the shortest time, not the shortest way", 10000, 20000, 10100, 20100, 30000, 30100, 40000, 40101);
        plan(x, "then", 20000, 20100, 30000, 30100, 40002, 40103);
        PlacerHead y = Check.machine(text + "spot 0 100 18; spot 1 1 1");
        plan(y, "discards", 10000, 20000, 10100, 20101);
        y.leaveOut(0, true);
        plan(y, "discards", 30000, 30100, 50000, 40101);
        CHECK.same("nextAction() at the end", y.nextAction(), PlacerHead.NONE);
    }

    /** The time of a move is that of the greater one of both differences, in each direction. */
    private static void promise34Ways() {
        int[] ways = {-41, -9, 0, 30};
        for (int number = 0; number < 256; number++) {
            int[] to = {ways[number % 4], ways[number / 4 % 4], ways[number / 16 % 4], ways[number / 64]};
            PlacerHead x = Check.machine("machine 1 10; vision 100 0 0; camera 300 200; nozzles 1; kind 0; feeder 0 100 9 0; spot 0 "
                + (300 + to[0]) + " " + (200 + to[1]) + "; spot 0 " + (300 + to[2]) + " " + (200 + to[3]));
            x.run(3);
            int first = (Math.max(Math.abs(to[0]), Math.abs(to[1])) + 9) / 10;
            int second = (Math.max(Math.abs(to[2]), Math.abs(to[3])) + 9) / 10;
            String call = "nextAction() with spots " + first + " and " + second + " away";
            CHECK.same(call, x.nextAction(), first <= second ? 40000 : 40001);
        }
    }

    private static void promise35() {
        PlacerHead x = Check.machine("machine 1 10; vision 0 0 0; nozzles 2; kind 0; feeder 0 100 2 100; feeder 0 200 1 0; spot 0 1 1");
        CHECK.same("step(), a change", x.step(), 1);
        CHECK.same("step(), a miss", x.step(), 0);
        CHECK.same("step(), a miss", x.step(), 0);
        CHECK.same("step(), a part", x.step(), 1);
        CHECK.same("step(), rejected", x.step(), 2);
        int then = x.now();
        CHECK.same("step() at the end", x.step(), PlacerHead.NONE);
        CHECK.same("now() at the end", x.now(), then);
        CHECK.same("logSize() at the end", x.logSize(), 5);
        CHECK.same("logEntry(2, 0)", x.logEntry(2, 0), 20000);
        CHECK.same("logEntry(3, 0)", x.logEntry(3, 0), 20001);
    }

    private static void promise36() {
        PlacerHead x = Check.machine("machine 1 10; vision 100 0 0; nozzles 2; kind 0; feeder 0 100 9 0; spot 0 1 1; spot 0 2 2");
        CHECK.argument("run(0)", () -> x.run(0));
        CHECK.argument("run(501)", () -> x.run(501));
        CHECK.argument("run(-1)", () -> x.run(-1));
        CHECK.same("run(1)", x.run(1), 1);
        CHECK.same("logSize()", x.logSize(), 1);
        CHECK.same("run(3)", x.run(3), 3);
        CHECK.same("filledSet()", x.filledSet(), 1);
        CHECK.same("run(500)", x.run(500), 3);
        CHECK.same("run(500) at the end", x.run(500), 0);
        CHECK.same("filledSet()", x.filledSet(), 3);
        PlacerHead y = Check.machine("machine 1 10; vision 0 0 0; nozzles 2; kind 0; feeder 0 100 500 0; spot 0 1 1");
        CHECK.same("run(500), at most so many", y.run(500), 500);
        CHECK.same("done(2)", y.done(2), 250);
    }

    private static void promise37() {
        PlacerHead x = Check.machine("machine 1 10; vision 0 0 0; alarm 2; nozzles 2; kind 0; feeder 0 100 9 0; spot 0 1 1");
        x.changeNozzle(0, 0);
        x.pick(0, 0);
        x.look(0);
        CHECK.no("isHalted() behind one", x.isHalted());
        CHECK.same("nextAction()", x.nextAction(), 20000);
        x.pick(0, 0);
        CHECK.same("look(0) that halts", x.look(0), 2);
        CHECK.yes("isHalted()", x.isHalted());
        CHECK.same("nextAction(), halted", x.nextAction(), PlacerHead.NONE);
        CHECK.same("step(), halted", x.step(), PlacerHead.NONE);
        CHECK.same("run(9), halted", x.run(9), 0);
        CHECK.same("pick(0, 0), halted", x.pick(0, 0), 1);
        x.set(5, 100);
        CHECK.same("look(0), halted", x.look(0), 1);
        CHECK.yes("isHalted() behind a good look", x.isHalted());
        x.set(11, 0);
        CHECK.yes("isHalted() without ALARM", x.isHalted());
        x.newBoard();
        CHECK.yes("isHalted() on a new board", x.isHalted());
        CHECK.same("place(0, 0), halted", x.place(0, 0), 1);
        PlacerHead y = Check.machine("machine 1 10; vision 0 0 0; nozzles 2; kind 0; feeder 0 100 9 0; spot 0 1 1");
        y.run(500);
        CHECK.no("isHalted() without ALARM", y.isHalted());
        CHECK.same("done(3)", y.done(3), 9);
    }

    private static void promise37Counts() {
        PlacerHead x = Check.machine("machine 1 10; vision 0 0 0; alarm 3; nozzles 2; kind 0; feeder 0 100 99 0; spot 0 1 1");
        x.changeNozzle(0, 0);
        x.pick(0, 0);
        x.look(0);
        x.pick(0, 0);
        x.look(0);
        x.pick(0, 0);
        x.set(5, 100);
        x.look(0);
        x.discard(0);
        x.set(5, 0);
        CHECK.no("isHalted() behind a good look and a discard", x.isHalted());
        x.run(4);
        CHECK.no("isHalted() behind two more", x.isHalted());
        x.set(11, 1);
        CHECK.no("isHalted() behind set()", x.isHalted());
        x.pick(0, 0);
        x.set(6, 100);
        x.set(7, 5);
        CHECK.same("look(0), uncertain", x.look(0), 0);
        CHECK.no("isHalted() behind an uncertain look", x.isHalted());
        x.set(6, 0);
        CHECK.same("look(0), rejected", x.look(0), 2);
        CHECK.yes("isHalted() by a later one", x.isHalted());
        PlacerHead y = Check.machine("machine 1 10; vision 0 0 0; nozzles 2; kind 0; feeder 0 100 9 0; spot 0 1 1");
        y.run(7);
        y.set(11, 4);
        y.run(2);
        CHECK.yes("isHalted(): those ahead of ALARM count", y.isHalted());
    }

    private static void promise38() {
        PlacerHead x = Check.machine("machine 1 10; vision 0 0 0; alarm 2; nozzles 2; kind 0; feeder 0 100 99 0; spot 0 1 1");
        CHECK.no("resume() at first", x.resume());
        CHECK.same("run(500)", x.run(500), 5);
        CHECK.yes("resume()", x.resume());
        CHECK.no("isHalted()", x.isHalted());
        CHECK.no("resume() again", x.resume());
        CHECK.same("run(500) anew", x.run(500), 4);
        x.resume();
        CHECK.same("run(2)", x.run(2), 2);
        CHECK.no("resume(), not halted", x.resume());
        CHECK.same("run(500): those before count no more", x.run(500), 4);
    }
}
