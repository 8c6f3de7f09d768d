/** Promises 49 to 61: predictions, which change nothing. */
public final class PredictionTests {
    private static final Check CHECK = new Check("PredictionTests");
    /** 2 units of time in a change, 3 in a pick, 5 in a look and 7 in a place, at a speed of 1. */
    private static final String LINE = "machine 1 1; times 2 3 5 7; vision 100 0 0; camera 20 0; nozzles 1; kind 0;";

    public static void main(String[] args) {
        promise49();
        promise49Limits();
        promise50();
        promise51();
        promise52();
        promise53();
        promise52Blocked();
        promise54();
        promise54Edges();
        promise55();
        promise56();
        promise57();
        promise57Ties();
        promise57Most();
        promise58();
        promise58Ends();
        promise59();
        promise59Ends();
        promise60();
        promise61();
        changeNothing();
        followTheState();
        comeTrue();
        bestByTrying();
        CHECK.end();
    }

    private static String repeated(String statement, int times) {
        return (statement + ";").repeat(times - 1) + statement;
    }

    private static void promise49() {
        PlacerHead x = Check.machine(LINE + "feeder 0 10 9 0; spot 0 30 0; spot 0 40 0");
        CHECK.same("actionsToEnd()", x.actionsToEnd(), 7);
        x.run(4);
        CHECK.same("actionsToEnd() then", x.actionsToEnd(), 3);
        x.run(3);
        CHECK.same("actionsToEnd() at the end", x.actionsToEnd(), 0);
        CHECK.same("actionsToEnd() of a new object", new PlacerHead().actionsToEnd(), 0);
        PlacerHead y = Check.machine(LINE + "seed 5; vision 60 20 2; alarm 4; feeder 0 10 30 20; " + repeated("spot 0 30 0", 9));
        int predicted = y.actionsToEnd();
        int time = y.timeAtEnd();
        int filled = y.filledAtEnd();
        CHECK.same("run(500) as predicted with draws", y.run(500), predicted);
        CHECK.same("now() as predicted with draws", y.now(), time);
        CHECK.same("filledSet() as predicted with draws", Long.bitCount(y.filledSet()), filled);
    }

    /** Two actions a part, and two that stay out: with 499 parts all rejected 1 + 998 actions, the change included. */
    private static PlacerHead rejects(int parts) {
        PlacerHead x = Check.machine("machine 1 1; times 0 0 0 1; vision 0 0 0; camera 1 0; nozzles 1; kind 0;"
            + "feeder 0 1 " + Math.min(parts, 499) + " 0; feeder 0 1 " + Math.max(parts - 499, 0) + " 0; spot 0 1 0");
        return x;
    }

    private static void promise49Limits() {
        CHECK.same("actionsToEnd() of 999", rejects(499).actionsToEnd(), 999);
        CHECK.same("actionsToEnd() of 1001", rejects(500).actionsToEnd(), PlacerHead.NONE);
        PlacerHead x = rejects(500);
        x.step();
        CHECK.same("actionsToEnd() of 1000", x.actionsToEnd(), 1000);
        CHECK.same("timeAtEnd() of 1000", x.timeAtEnd(), 1);
        CHECK.same("timeAtEnd() of 1001", rejects(500).timeAtEnd(), PlacerHead.NONE);
        PlacerHead halted = rejects(500);
        halted.set(11, 20);
        CHECK.same("actionsToEnd() until halted", halted.actionsToEnd(), 41);
        halted.run(500);
        CHECK.same("actionsToEnd(), halted", halted.actionsToEnd(), 0);
        CHECK.same("timeAtEnd(), halted", halted.timeAtEnd(), halted.now());
    }

    private static void promise50() {
        PlacerHead x = Check.machine(LINE + "feeder 0 10 9 0; spot 0 30 0; spot 0 40 0");
        // change 2; pick 13; look 15; place 17; pick 23; look 15; place 27
        CHECK.same("timeAtEnd()", x.timeAtEnd(), 2 + 13 + 15 + 17 + 23 + 15 + 27);
        x.run(500);
        CHECK.same("timeAtEnd() at the end", x.timeAtEnd(), 112);
        CHECK.same("timeAtEnd() of a new object", new PlacerHead().timeAtEnd(), 0);
    }

    private static void promise51() {
        PlacerHead x = Check.machine(LINE + "feeder 0 10 3 0; " + repeated("spot 0 30 0", 5));
        CHECK.same("filledAtEnd()", x.filledAtEnd(), 3);
        x.run(4);
        CHECK.same("filledAtEnd(), one filled", x.filledAtEnd(), 3);
        x.leaveOut(4, true);
        x.leaveOut(3, true);
        x.leaveOut(2, true);
        CHECK.same("filledAtEnd(), three left out", x.filledAtEnd(), 2);
        CHECK.same("filledAtEnd() behind 1000 actions", rejects(600).filledAtEnd(), 0);
        PlacerHead y = rejects(505);
        y.set(5, 100);
        y.run(500);
        y.set(5, 0);
        y.leaveOut(0, false);
        CHECK.same("filledAtEnd() of one that is filled", y.filledAtEnd(), 1);
        y.newBoard();
        CHECK.same("filledAtEnd() in 1000 actions", y.filledAtEnd(), 0);
    }

    private static void promise52() {
        PlacerHead x = Check.machine(LINE + "kind 0; feeder 0 10 2 0; feeder 0 20 1 0; feeder 1 9 3 0;"
            + repeated("spot 0 30 0", 7) + "; spot 1 1 1");
        CHECK.same("shortage(0)", x.shortage(0), 4);
        CHECK.same("shortage(1), 0 or more", x.shortage(1), 0);
        x.splice(0, 1);
        CHECK.same("shortage(0), one waits", x.shortage(0), 3);
        x.run(2);
        CHECK.same("shortage(0), one held", x.shortage(0), 3);
        x.discard(0);
        CHECK.same("shortage(0), one discarded", x.shortage(0), 4);
        x.leaveOut(3, true);
        CHECK.same("shortage(0), one left out", x.shortage(0), 3);
        x.run(3);
        CHECK.same("shortage(0), one filled", x.shortage(0), 3);
        CHECK.index("shortage(2)", () -> x.shortage(2));
        CHECK.index("shortage(-1)", () -> x.shortage(-1));
    }

    private static void promise53() {
        PlacerHead x = Check.machine(LINE + "kind 0; feeder 0 10 6 0; feeder 1 9 3 0;" + repeated("spot 0 30 0", 4) + "; spot 1 1 1");
        x.run(4);
        x.leaveOut(3, true);
        // 2 open, 3 that are not left out, 5 in the reel
        CHECK.same("shortageFor(0, 1)", x.shortageFor(0, 1), 0);
        CHECK.same("shortageFor(0, 2)", x.shortageFor(0, 2), 0);
        CHECK.same("shortageFor(0, 3)", x.shortageFor(0, 3), 3);
        CHECK.same("shortageFor(0, 1000)", x.shortageFor(0, 1000), 2 + 2997 - 5);
        CHECK.same("shortageFor(1, 4)", x.shortageFor(1, 4), 1);
        x.splice(0, 2);
        x.step();
        CHECK.same("shortageFor(0, 3), one held, two wait", x.shortageFor(0, 3), 1);
        CHECK.index("shortageFor(2, 1)", () -> x.shortageFor(2, 1));
        CHECK.index("shortageFor(-1, 0)", () -> x.shortageFor(-1, 0));
        CHECK.argument("shortageFor(0, 0)", () -> x.shortageFor(0, 0));
        CHECK.argument("shortageFor(0, 1001)", () -> x.shortageFor(0, 1001));
    }

    private static void promise54() {
        CHECK.same("boardsPossible() of a new object", new PlacerHead().boardsPossible(), 1000);
        PlacerHead x = Check.machine(LINE + "kind 0; feeder 0 10 11 0; feeder 1 9 4 0;" + repeated("spot 0 30 0", 3) + "; spot 1 1 1");
        CHECK.same("boardsPossible()", x.boardsPossible(), 3);
        x.splice(0, 1);
        CHECK.same("boardsPossible(), one more", x.boardsPossible(), 4);
        x.splice(0, 500);
        CHECK.same("boardsPossible(), the other kind", x.boardsPossible(), 4);
        x.run(500);
        CHECK.same("boardsPossible(), one done", x.boardsPossible(), 4);
        x.leaveOut(0, true);
        for (int i = 0; i < 4; i++) {
            x.newBoard();
            x.run(500);
        }
        CHECK.same("boardsPossible(), the other kind is missing", x.boardsPossible(), 0);
        PlacerHead y = Check.machine(LINE + repeated("feeder 0 10 500 0", 2) + ";" + "spot 0 30 0");
        CHECK.same("boardsPossible() of 1000 parts", y.boardsPossible(), 1000);
        y.splice(0, 9);
        CHECK.same("boardsPossible() of 1009 parts", y.boardsPossible(), 1000);
        y.takeReel(0);
        y.run(2);
        y.discard(0);
        CHECK.same("boardsPossible() of 999 parts", y.boardsPossible(), 999);
        PlacerHead z = Check.machine(LINE + "spot 0 1 1");
        CHECK.same("boardsPossible() without parts", z.boardsPossible(), 0);
        z.leaveOut(0, true);
        CHECK.same("boardsPossible() without spots", z.boardsPossible(), 1000);
    }

    private static void promise52Blocked() {
        PlacerHead x = Check.machine(LINE + "feeder 0 10 1 0; spot 0 30 0; spot 0 30 0; before 0 1");
        CHECK.same("shortage(0): blocked spots are open", x.shortage(0), 1);
        CHECK.same("shortageFor(0, 1): as shortage", x.shortageFor(0, 1), 1);
        x.splice(0, 1);
        CHECK.same("shortage(0), just as many", x.shortage(0), 0);
        x.splice(0, 1);
        CHECK.same("shortage(0), one too many", x.shortage(0), 0);
        x.splice(0, 0);
        x.takeReel(0);
        x.takeReel(0);
        x.takeReel(0);
        CHECK.same("shortage(0), two taken away", x.shortage(0), 1);
        x.leaveOut(0, true);
        x.leaveOut(1, true);
        CHECK.same("shortage(0), all left out", x.shortage(0), 0);
        CHECK.same("shortageFor(0, 1000), all left out", x.shortageFor(0, 1000), 0);
        PlacerHead y = Check.machine("machine 1 1; nozzles 1; kind 0;" + repeated("spot 0 1 1", 40));
        CHECK.same("shortageFor(0, 1000) of 40 spots", y.shortageFor(0, 1000), 40000);
    }

    private static void promise54Edges() {
        PlacerHead x = Check.machine(LINE + "feeder 0 10 2 0;" + repeated("spot 0 30 0", 3));
        CHECK.same("boardsPossible(), one part is missing on this one", x.boardsPossible(), 0);
        x.splice(0, 1);
        CHECK.same("boardsPossible(), just enough for this one", x.boardsPossible(), 1);
        x.splice(0, 2);
        CHECK.same("boardsPossible(), one is missing for the second one", x.boardsPossible(), 1);
        x.splice(0, 1);
        CHECK.same("boardsPossible(), just enough for two", x.boardsPossible(), 2);
        x.run(2);
        CHECK.same("boardsPossible(), one of them is held", x.boardsPossible(), 2);
        x.run(2);
        CHECK.same("boardsPossible(), one of them is placed", x.boardsPossible(), 2);
        x.discard(0);
        x.pick(0, 0);
        x.discard(0);
        CHECK.same("boardsPossible(), one is rejected", x.boardsPossible(), 1);
        PlacerHead y = Check.machine(LINE + "kind 0; feeder 0 10 1 0; feeder 1 10 500 0; spot 0 1 1; spot 1 1 1");
        y.splice(1, 500);
        CHECK.same("boardsPossible(): the kind that is missing first", y.boardsPossible(), 1);
        y.leaveOut(0, true);
        CHECK.same("boardsPossible() of 1000 parts", y.boardsPossible(), 1000);
        PlacerHead z = Check.machine(LINE + "feeder 0 10 500 0; spot 0 30 0");
        z.splice(0, 498);
        CHECK.same("boardsPossible() of 998 parts", z.boardsPossible(), 998);
        z.splice(0, 1);
        CHECK.same("boardsPossible() of 999 parts", z.boardsPossible(), 999);
        z.splice(0, 2);
        CHECK.same("boardsPossible() of 1001 parts", z.boardsPossible(), 1000);
    }

    private static void promise55() {
        PlacerHead x = Check.machine(LINE + "feeder 0 10 2 0; feeder 0 900 3 0; feeder 0 950 0 0; feeder 0 990 4 0;" + repeated("spot 0 30 0", 5));
        // the feeders 0 and 1 have the nearer parts: picks are the actions 2, 5, 8, 11, 14
        CHECK.same("runsOut(0)", x.runsOut(0), 5);
        CHECK.same("runsOut(1)", x.runsOut(1), 14);
        CHECK.same("runsOut(2)", x.runsOut(2), 0);
        CHECK.same("runsOut(3)", x.runsOut(3), PlacerHead.NONE);
        x.splice(0, 1);
        CHECK.same("runsOut(0), one waits", x.runsOut(0), 9);
        x.splice(2, 0);
        CHECK.same("runsOut(2), an empty reel", x.runsOut(2), 0);
        CHECK.index("runsOut(4)", () -> x.runsOut(4));
        CHECK.index("runsOut(-1)", () -> x.runsOut(-1));
        PlacerHead y = rejects(998);
        CHECK.same("runsOut(0) of 499 parts", y.runsOut(0), 998);
        CHECK.same("runsOut(1) beyond 1000 actions", y.runsOut(1), PlacerHead.NONE);
        y.splice(0, 1);
        y.step();
        // 998 actions for 499 parts; then the splice that fails, and the last part
        CHECK.same("runsOut(0) behind 1000 actions", y.runsOut(0), 1000);
        PlacerHead z = rejects(998);
        z.splice(0, 1);
        CHECK.same("runsOut(0) behind 1001 actions", z.runsOut(0), PlacerHead.NONE);
    }

    private static void promise56() {
        PlacerHead x = Check.machine(LINE + "feeder 0 10 1 0; feeder 0 20 1 0;" + repeated("spot 0 30 0", 4));
        CHECK.same("splicesAhead(), none", x.splicesAhead(), 0);
        x.splice(0, 1);
        x.splice(1, 0);
        x.splice(1, 0);
        x.splice(1, 5);
        CHECK.same("splicesAhead()", x.splicesAhead(), 4);
        x.run(500);
        CHECK.same("splicesAhead() at the end", x.splicesAhead(), 0);
        PlacerHead y = rejects(998);
        y.splice(0, 1);
        y.splice(1, 1);
        CHECK.same("splicesAhead() in 1000 actions", y.splicesAhead(), 1);
    }

    private static void promise57() {
        int looks = Check.seedFor(0, 99, 50, 99, 50, 99, 50, 99, 0, 49);
        PlacerHead x = Check.machine(LINE + "vision 50 50 0; seed " + looks + "; feeder 0 10 1 0; spot 0 30 0");
        CHECK.same("bestRetries()", x.bestRetries(), 3);
        CHECK.same("setting(7) stays", x.setting(7), 0);
        x.set(7, 5);
        CHECK.same("bestRetries(), whatever RETRIES is", x.bestRetries(), 3);
        x.leaveOut(0, true);
        CHECK.same("bestRetries() without spots", x.bestRetries(), 0);
        CHECK.same("bestRetries() of a new object", new PlacerHead().bestRetries(), 0);
    }

    private static void promise57Ties() {
        // the second look makes it ready, but a second part is ready at once: rejecting takes longer by far
        int seed = Check.seedFor(0, 99, 50, 99, 0, 49, 0, 49);
        PlacerHead x = Check.machine("machine 1 1; times 0 0 5 0; vision 50 50 0; camera 20 0; seed " + seed
            + "; nozzles 1; kind 0; feeder 0 900 9 0; spot 0 20 0");
        CHECK.same("bestRetries(), the earliest time", x.bestRetries(), 1);
        PlacerHead y = Check.machine("machine 1 1; times 0 0 200 0; vision 50 50 5; camera 20 0; seed "
            + Check.seedFor(0, 99, 50, 99, 50, 99, 0, 49) + "; nozzles 1; kind 0; feeder 0 20 9 0; spot 0 20 0");
        y.step();
        y.step();
        // RETRIES 0: rejected, then a pick draws the second number, and a look the third: two looks; 1: three looks
        CHECK.same("bestRetries(), rejecting is earlier", y.bestRetries(), 0);
    }

    /** The most spots come first, also if fewer are earlier; RETRIES up to 5 are tried. */
    private static void promise57Most() {
        PlacerHead x = Check.machine(LINE + "vision 50 50 0; seed " + Check.seedFor(0, 99, 50, 99, 50, 99, 50, 99, 50, 99, 50, 99, 0, 49)
            + "; feeder 0 10 1 0; spot 0 30 0");
        CHECK.same("bestRetries(), the greatest one", x.bestRetries(), 5);
        PlacerHead y = Check.machine(LINE + "vision 50 50 5; seed " + Check.seedFor(0, 99, 0, 49) + "; feeder 0 10 1 0; spot 0 30 0");
        CHECK.same("bestRetries(), the same with each: the smallest one", y.bestRetries(), 0);
        // RETRIES 0: rejected, and the second part is good; 1 or more: both are rejected, without a dear place
        int seed = Check.seedFor(0, 99, 50, 79, 80, 99, 0, 49, 80, 99);
        PlacerHead z = Check.machine("machine 1 50; times 0 0 0 200; vision 50 30 5; camera 0 0; seed " + seed
            + "; nozzles 1; kind 0; feeder 0 0 2 0; spot 0 0 0");
        CHECK.same("timeAtEnd() with RETRIES 5", z.timeAtEnd(), 0);
        CHECK.same("filledAtEnd() with RETRIES 5", z.filledAtEnd(), 0);
        CHECK.same("bestRetries(), more spots later", z.bestRetries(), 0);
        z.set(7, 0);
        CHECK.same("timeAtEnd() with RETRIES 0", z.timeAtEnd(), 200);
        CHECK.same("filledAtEnd() with RETRIES 0", z.filledAtEnd(), 1);
        mostSpotsNotTheGreatest();
        PlacerHead none = rejects(600);
        CHECK.same("bestRetries() without an end in 1000 actions", none.bestRetries(), 0);
        none.set(6, 100);
        CHECK.same("bestRetries() without an end, the earliest time behind 1000 actions", none.bestRetries(), 0);
    }

    /** Spots 0 and 1 with RETRIES from 1 on, spot 2 alone with RETRIES 0. */
    private static void mostSpotsNotTheGreatest() {
        int seed = Check.seedFor(0, 99, 50, 79, 0, 49, 50, 99, 0, 49, 0, 49, 80, 99);
        PlacerHead x = Check.machine(LINE + "kind 0; vision 50 30 0; seed " + seed + "; feeder 0 10 2 0; feeder 1 10 1 0;"
            + "spot 0 30 0; spot 0 30 0; spot 1 30 0");
        PlacerHead y = Check.machine(LINE + "kind 0; vision 50 30 1; seed " + seed + "; feeder 0 10 2 0; feeder 1 10 1 0;"
            + "spot 0 30 0; spot 0 30 0; spot 1 30 0");
        CHECK.same("bestRetries(), two spots", x.bestRetries(), 1);
        x.run(500);
        CHECK.same("filledSet() with RETRIES 0", x.filledSet(), 4);
        y.run(500);
        CHECK.same("filledSet() with RETRIES 1", y.filledSet(), 3);
    }

    private static void promise58() {
        PlacerHead x = Check.machine(LINE + "feeder 0 10 9 0; spot 0 30 0; spot 0 400 0; spot 0 400 0; spot 0 5 0");
        CHECK.same("dearestSpot(), the smallest of several", x.dearestSpot(), 1);
        x.leaveOut(1, true);
        CHECK.same("dearestSpot(), of the open ones", x.dearestSpot(), 2);
        CHECK.same("spotValue(2, 3) stays", x.spotValue(2, 3), 0);
        PlacerHead y = Check.machine(LINE + "feeder 0 10 9 0; spot 0 30 0; spot 0 400 0; spot 0 20 0; before 0 1; before 0 2; before 1 2");
        y.run(4);
        CHECK.same("dearestSpot(), one filled", y.dearestSpot(), 1);
        y.run(500);
        CHECK.same("dearestSpot(), none open", y.dearestSpot(), PlacerHead.NONE);
        CHECK.same("dearestSpot() of a new object", new PlacerHead().dearestSpot(), PlacerHead.NONE);
    }

    private static void promise58Ends() {
        String text = "machine 1 1; times 0 0 0 1; vision 0 0 0; camera 1 0; nozzles 1 1; kind 0; kind 1; feeder 0 1 500 0;"
            + "feeder 0 1 50 0; feeder 1 900 5 0;";
        PlacerHead x = Check.machine(text + "spot 0 1 0; spot 0 1 0; spot 1 9 9");
        CHECK.same("dearestSpot(), none lets it end", x.dearestSpot(), PlacerHead.NONE);
        PlacerHead y = Check.machine(text + "spot 1 1 0; spot 0 1 0");
        CHECK.same("timeAtEnd()", y.timeAtEnd(), PlacerHead.NONE);
        CHECK.same("dearestSpot(), one lets it end", y.dearestSpot(), 1);
        PlacerHead z = Check.machine(LINE + "spot 0 1 0; spot 0 1 0");
        CHECK.same("dearestSpot() without parts", z.dearestSpot(), 0);
        z.leaveOut(0, true);
        CHECK.same("dearestSpot() without parts, one left out", z.dearestSpot(), 1);
        x.set(11, 1);
        x.run(3);
        CHECK.yes("isHalted()", x.isHalted());
        CHECK.same("dearestSpot(), halted", x.dearestSpot(), 0);
    }

    private static void promise59() {
        String kinds = LINE + "kind 0; kind 0;";
        PlacerHead x = Check.machine(kinds + "feeder 0 10 9 0; feeder 1 700 9 0; feeder 2 300 9 0;" + repeated("spot 1 20 0", 3));
        // kind 1 alone is picked: from 10 it is dearer than from 300 only by nothing; 20 is the camera and the spots
        CHECK.same("bestSwap()", x.bestSwap(), 1);
        CHECK.same("feederValue(0, 1) stays", x.feederValue(0, 1), 10);
        CHECK.same("feederValue(1, 1) stays", x.feederValue(1, 1), 700);
        x.moveFeeder(0, 900);
        CHECK.same("bestSwap(), another one", x.bestSwap(), 102);
        x.moveFeeder(1, 20);
        CHECK.same("bestSwap(), not earlier", x.bestSwap(), PlacerHead.NONE);
        PlacerHead y = Check.machine(kinds + "feeder 0 300 9 0; feeder 1 700 9 0; feeder 2 300 9 0; feeder 2 300 9 0;" + repeated("spot 1 20 0", 3));
        CHECK.same("bestSwap(), the smallest of several", y.bestSwap(), 1);
        CHECK.same("bestSwap() of a new object", new PlacerHead().bestSwap(), PlacerHead.NONE);
    }

    private static void promise59Ends() {
        PlacerHead x = rejects(600);
        x.moveFeeder(0, 900);
        CHECK.same("bestSwap() without an end", x.bestSwap(), PlacerHead.NONE);
        PlacerHead y = Check.machine(LINE + "kind 0; feeder 0 10 9 0; feeder 1 700 9 0; spot 1 1 1");
        y.set(5, 0);
        y.set(11, 1);
        y.run(500);
        CHECK.same("bestSwap(), halted", y.bestSwap(), PlacerHead.NONE);
        y.resume();
        y.set(5, 100);
        CHECK.same("bestSwap(), not halted", y.bestSwap(), 1);
        // the feeder from which each pick fails is the nearest one behind the exchange
        PlacerHead z = Check.machine(LINE + "feeder 0 10 9 0; feeder 0 20 500 100; spot 0 20 0");
        for (int i = 0; i < 3; i++) {
            z.splice(1, 500);
        }
        CHECK.same("bestSwap(), with which the plan does not end", z.bestSwap(), PlacerHead.NONE);
        z.moveFeeder(0, 20);
        z.moveFeeder(1, 10);
        CHECK.same("timeAtEnd() with the exchange", z.timeAtEnd(), PlacerHead.NONE);
        CHECK.same("bestSwap(), as the plan does not end without it", z.bestSwap(), PlacerHead.NONE);
    }

    private static void promise60() {
        PlacerHead x = Check.machine("machine 1 1; vision 100 0 0; nozzles 1 1; kind 0; kind 1; feeder 0 10 9 0; feeder 1 20 9 0;"
            + "spot 0 1 1; spot 1 2 2; spot 0 3 3; before 0 1; before 1 2");
        CHECK.same("changesAhead()", x.changesAhead(), 3);
        x.run(5);
        CHECK.same("changesAhead() then", x.changesAhead(), 1);
        x.run(500);
        CHECK.same("changesAhead() at the end", x.changesAhead(), 0);
        CHECK.same("done(1)", x.done(1), 3);
        x.newBoard();
        CHECK.same("changesAhead() on a new board", x.changesAhead(), 2);
        x.leaveOut(1, true);
        CHECK.same("changesAhead(), the other kind left out", x.changesAhead(), 0);
        PlacerHead y = Check.machine("machine 1 1; times 0 0 0 1; vision 0 0 0; nozzles 1 1; kind 0; kind 1; feeder 0 1 500 0; feeder 1 1 9 0;"
            + "spot 0 1 0; spot 1 2 2");
        CHECK.same("changesAhead() in 1000 actions", y.changesAhead(), 1);
    }

    private static void promise61() {
        PlacerHead x = Check.machine(LINE + "wear 2 0 9; feeder 0 10 99 0;" + repeated("spot 0 1 1", 5));
        CHECK.same("cleansAhead()", x.cleansAhead(), 2);
        x.run(8);
        CHECK.same("done(6)", x.done(6), 1);
        CHECK.same("cleansAhead() then", x.cleansAhead(), 1);
        x.set(12, 0);
        CHECK.same("cleansAhead() without LIMIT", x.cleansAhead(), 0);
        PlacerHead y = Check.machine("machine 1 1; times 0 0 0 0; vision 0 0 0; wear 1 0 1; nozzles 1; kind 0; feeder 0 1 500 0; spot 0 1 0");
        // the change, then pick, look and clean again and again
        CHECK.same("cleansAhead() in 1000 actions", y.cleansAhead(), 333);
    }

    private static long sum(PlacerHead x) {
        long sum = 7;
        for (int what = 0; what <= 14; what++) {
            sum = sum * 31 + x.setting(what);
        }
        for (int what = 0; what <= 7; what++) {
            for (int i = 0; i < 2; i++) {
                sum = sum * 31 + x.spindleValue(i, what);
                sum = sum * 31 + x.feederValue(i, what);
            }
        }
        for (int action = 1; action <= 6; action++) {
            sum = (sum * 31 + x.done(action)) * 31 + x.timeOf(action);
        }
        for (int index = 0; index < 40; index++) {
            sum = (sum * 31 + x.logEntry(index, 0)) * 31 + x.logEntry(index, 2);
        }
        sum = ((sum * 31 + x.now()) * 31 + x.head(0)) * 31 + x.head(1);
        return ((sum * 31 + x.filledSet()) * 31 + x.fillableSet()) * 31 + x.nextAction();
    }

    private static void changeNothing() {
        for (int i = 1; i <= 9; i++) {
            PlacerHead x = Check.machine("machine 2 10; vision 60 20 2; alarm 9; wear 3 20 20; seed 8; nozzles 1 1; kind 0; kind 1;"
                + "feeder 0 10 90 20; feeder 1 20 90 20;" + repeated("spot 0 1 1", 5) + ";" + repeated("spot 1 1 1", 5));
            x.splice(0, 9);
            x.run(4 * i);
            long sum = sum(x);
            x.nextAction();
            x.actionsToEnd();
            x.timeAtEnd();
            x.filledAtEnd();
            x.runsOut(0);
            x.splicesAhead();
            x.bestRetries();
            x.dearestSpot();
            x.bestSwap();
            x.changesAhead();
            x.cleansAhead();
            x.boardsPossible();
            x.isBalanced();
            CHECK.same("the state behind predictions", sum(x), sum);
        }
    }

    private static PlacerHead busy() {
        PlacerHead x = Check.machine("machine 2 10; times 3 4 5 6; vision 60 30 1; wear 2 30 7; seed 8; nozzles 1 1; kind 0; kind 1;"
            + "feeder 0 10 40 20; feeder 1 620 40 10; feeder 0 330 40 5;" + repeated("spot 0 1 150", 4) + ";" + repeated("spot 1 70 10", 4)
            + "; spot 0 999 999");
        x.splice(0, 9);
        return x;
    }

    private static int ahead(PlacerHead x, int which) {
        switch (which) {
            case 0:
                return x.actionsToEnd();
            case 1:
                return x.timeAtEnd();
            case 2:
                return x.filledAtEnd();
            case 3:
                return x.runsOut(0);
            case 4:
                return x.splicesAhead();
            case 5:
                return x.changesAhead();
            case 6:
                return x.cleansAhead();
            case 7:
                return x.bestRetries();
            case 8:
                return x.dearestSpot();
            default:
                return x.bestSwap();
        }
    }

    /** Each prediction alone, asked twice, tells of the state as it is then, and is that of a machine that was not asked before. */
    private static void followTheState() {
        for (int which = 0; which <= 9; which++) {
            PlacerHead x = busy();
            PlacerHead y = busy();
            int first = ahead(x, which);
            CHECK.same("prediction " + which + " asked again", ahead(x, which), first);
            boolean changed = false;
            for (int i = 0; i < 8; i++) {
                change(x, i);
                change(y, i);
                int then = ahead(x, which);
                changed |= then != first;
                CHECK.same("prediction " + which + " behind change " + i, then, ahead(changedUpTo(i), which));
            }
            CHECK.yes("prediction " + which + " has changed", changed);
            CHECK.same("prediction " + which + " of one that was not asked before", ahead(y, which), ahead(x, which));
        }
    }

    /** What each prediction tells, asked alone, is what comes when the machine goes on by the plan. */
    private static void comeTrue() {
        for (int which = 0; which <= 6; which++) {
            PlacerHead x = busy();
            for (int i = 0; i < 8; i++) {
                change(x, i);
                int told = ahead(x, which);
                CHECK.same("prediction " + which + " behind change " + i + " comes true", told, which == 3 ? runOut(i) : whatComes(i, which));
            }
        }
    }

    private static PlacerHead changedUpTo(int last) {
        PlacerHead x = busy();
        for (int i = 0; i <= last; i++) {
            change(x, i);
        }
        return x;
    }

    /** Goes on by the plan, for at most so many actions; returns how many there were. */
    private static int goOn(PlacerHead x, int most) {
        int actions = 0;
        while (actions < most && x.nextAction() != PlacerHead.NONE) {
            actions += x.run(Math.min(500, most - actions));
        }
        return actions;
    }

    private static int whatComes(int last, int which) {
        PlacerHead y = changedUpTo(last);
        int changes = y.done(1);
        int cleans = y.done(6);
        int reels = y.feederValue(0, 4);
        int actions = goOn(y, 1001);
        CHECK.yes("the test's own machine ends", actions <= 1000);
        // a reel waits at feeder 0 alone, and none of them is without parts
        int[] came = {actions, y.now(), Long.bitCount(y.filledSet()), 0, reels - y.feederValue(0, 4), y.done(1) - changes, y.done(6) - cleans};
        return came[which];
    }

    private static int runOut(int last) {
        PlacerHead y = changedUpTo(last);
        int end = goOn(y, 1000);
        for (int actions = 0; actions <= end; actions++) {
            if (actions % 100 == 0) {
                // an object is used for 512 calls
                y = changedUpTo(last);
                goOn(y, actions);
            } else {
                y.run(1);
            }
            if (y.feederValue(0, 2) == 0 && y.feederValue(0, 4) == 0) {
                return actions;
            }
        }
        return PlacerHead.NONE;
    }

    private static void change(PlacerHead x, int i) {
        switch (i) {
            case 0:
                x.leaveOut(8, true);
                break;
            case 1:
                x.run(9);
                break;
            case 2:
                x.setMiss(0, 99);
                x.setMiss(2, 100);
                break;
            case 3:
                x.moveFeeder(1, 0);
                break;
            case 4:
                x.set(5, 10);
                x.set(6, 90);
                break;
            case 5:
                x.set(12, 0);
                break;
            case 6:
                x.newBoard();
                x.setMiss(0, 0);
                break;
            default:
                x.leaveOut(0, true);
                x.leaveOut(1, true);
                break;
        }
    }

    /** The best ones are those that are found by trying each one on the machine itself. */
    private static void bestByTrying() {
        for (int i = 0; i < 12; i++) {
            PlacerHead x = busy();
            x.set(5, 4 + 6 * i);
            x.set(0, 1 + 4 * i);
            x.moveFeeder(2, 83 * i);
            x.run(5 * i + 1);
            if (i % 2 == 0) {
                x.newBoard();
            }
            CHECK.same("bestRetries() by trying", x.bestRetries(), triedRetries(x));
            CHECK.same("dearestSpot() by trying", x.dearestSpot(), triedSpot(x));
            CHECK.same("bestSwap() by trying", x.bestSwap(), triedSwap(x));
        }
    }

    private static int triedRetries(PlacerHead x) {
        int best = 0;
        long least = Long.MAX_VALUE;
        int now = x.setting(7);
        for (int retries = 0; retries <= 5; retries++) {
            x.set(7, retries);
            if (x.timeAtEnd() == PlacerHead.NONE) {
                throw new IllegalStateException("the test's own machine does not end");
            }
            long rank = -1000000L * x.filledAtEnd() + x.timeAtEnd();
            best = rank < least ? retries : best;
            least = Math.min(rank, least);
        }
        x.set(7, now);
        return best;
    }

    private static int triedSpot(PlacerHead x) {
        int best = PlacerHead.NONE;
        int least = Integer.MAX_VALUE;
        for (int spot = 0; spot < x.count(4); spot++) {
            if (x.leaveOut(spot, true)) {
                int end = x.timeAtEnd();
                if (end != PlacerHead.NONE && end < least) {
                    best = spot;
                    least = end;
                }
                x.leaveOut(spot, false);
            }
        }
        return best;
    }

    private static int triedSwap(PlacerHead x) {
        int best = PlacerHead.NONE;
        int least = x.timeAtEnd();
        for (int one = 0; one < 3; one++) {
            for (int other = one + 1; other < 3; other++) {
                int oneX = x.feederValue(one, 1);
                int otherX = x.moveFeeder(other, oneX);
                x.moveFeeder(one, otherX);
                int end = x.timeAtEnd();
                if (end != PlacerHead.NONE && end < least) {
                    best = 100 * one + other;
                    least = end;
                }
                x.moveFeeder(one, oneX);
                x.moveFeeder(other, otherX);
            }
        }
        return best;
    }
}
