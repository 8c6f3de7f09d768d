/** Promises 17 to 27: spots, pairs and boards. */
public final class SpotTests {
    private static final Check CHECK = new Check("SpotTests");
    private static final String BOARD = "machine 2 10; vision 100 0 0; nozzles 2; kind 0; kind 0; feeder 0 100 50 0; feeder 1 200 50 0;";

    public static void main(String[] args) {
        promise17();
        promise18();
        promise19();
        promise20();
        promise20Full();
        promise21();
        promise21EachOne();
        promise22();
        promise23();
        promise24();
        promise25();
        promise26();
        promise27();
        CHECK.end();
    }

    private static void spot(PlacerHead x, String when, int spot, int... want) {
        for (int what = 0; what < want.length; what++) {
            CHECK.same(when + ": spotValue(" + spot + ", " + what + ")", x.spotValue(spot, what), want[what]);
        }
    }

    private static void fill(PlacerHead x, int spindle, int feeder, int spot) {
        x.changeNozzle(spindle, 0);
        x.pick(spindle, feeder);
        x.look(spindle);
        CHECK.same("place(" + spindle + ", " + spot + ")", x.place(spindle, spot), 1);
    }

    private static void promise17() {
        PlacerHead x = Check.machine(BOARD + "spot 1 300 40; spot 0 0 999; spot 1 5 6");
        spot(x, "at first", 0, 1, 300, 40, 0, -1, -1);
        spot(x, "at first", 1, 0, 0, 999, 0, -1, -1);
        fill(x, 1, 1, 0);
        spot(x, "filled", 0, 1, 300, 40, 1, 30 + 20 + 10 + 30 + 8 + 20 + 10, 1);
        CHECK.same("now()", x.now(), 128);
        x.leaveOut(1, true);
        spot(x, "left out", 1, 0, 0, 999, 2, -1, -1);
        x.newBoard();
        spot(x, "a new board", 0, 1, 300, 40, 0, -1, -1);
        x.leaveOut(1, false);
        fill(x, 0, 0, 1);
        spot(x, "filled", 1, 0, 0, 999, 1, x.now(), 0);
        x.saveSnapshot(0);
        x.newBoard();
        spot(x, "open again", 1, 0, 0, 999, 0, -1, -1);
        x.restoreSnapshot(0);
        spot(x, "restored", 1, 0, 0, 999, 1, x.now(), 0);
        CHECK.index("spotValue(3, 0)", () -> x.spotValue(3, 0));
        CHECK.index("spotValue(-1, 7)", () -> x.spotValue(-1, 7));
        CHECK.argument("spotValue(0, 6)", () -> x.spotValue(0, 6));
        CHECK.argument("spotValue(0, -1)", () -> x.spotValue(0, -1));
    }

    private static void promise18() {
        PlacerHead x = Check.machine(BOARD + "spot 0 300 40; spot 0 0 999");
        CHECK.no("leaveOut(0, false), open", x.leaveOut(0, false));
        CHECK.yes("leaveOut(0, true), open", x.leaveOut(0, true));
        CHECK.no("leaveOut(0, true), left out", x.leaveOut(0, true));
        CHECK.same("spotValue(0, 3)", x.spotValue(0, 3), 2);
        CHECK.yes("leaveOut(0, false), left out", x.leaveOut(0, false));
        CHECK.same("spotValue(0, 3)", x.spotValue(0, 3), 0);
        fill(x, 0, 0, 0);
        CHECK.no("leaveOut(0, true), filled", x.leaveOut(0, true));
        CHECK.no("leaveOut(0, false), filled", x.leaveOut(0, false));
        CHECK.same("spotValue(0, 3)", x.spotValue(0, 3), 1);
        fill(x, 0, 0, 1);
        CHECK.no("leaveOut(1, true), filled", x.leaveOut(1, true));
        CHECK.no("leaveOut(1, false), filled", x.leaveOut(1, false));
        x.newBoard();
        CHECK.yes("leaveOut(1, true) on a new board", x.leaveOut(1, true));
        CHECK.same("newBoard(): none is filled", x.newBoard(), 0);
        CHECK.same("spotValue(1, 3): it stays left out", x.spotValue(1, 3), 2);
        CHECK.index("leaveOut(2, true)", () -> x.leaveOut(2, true));
        CHECK.index("leaveOut(-1, false)", () -> x.leaveOut(-1, false));
    }

    private static void promise19() {
        PlacerHead x = Check.machine(BOARD + "spot 1 300 40; spot 0 0 999; spot 1 5 6; spot 1 5 6; before 0 2; kind 0");
        CHECK.same("openSpots(0)", x.openSpots(0), 1);
        CHECK.same("openSpots(1), blocked ones too", x.openSpots(1), 3);
        CHECK.same("openSpots(2)", x.openSpots(2), 0);
        x.leaveOut(3, true);
        CHECK.same("openSpots(1), one left out", x.openSpots(1), 2);
        fill(x, 0, 1, 0);
        CHECK.same("openSpots(1), one filled", x.openSpots(1), 1);
        CHECK.index("openSpots(3)", () -> x.openSpots(3));
        CHECK.index("openSpots(-1)", () -> x.openSpots(-1));
    }

    private static void promise20() {
        PlacerHead x = Check.machine(BOARD + "spot 0 1 1; spot 0 1 1; spot 0 1 1; spot 0 1 1; spot 0 1 1");
        CHECK.same("addBefore(0, 1)", x.addBefore(0, 1), 1);
        CHECK.same("addBefore(0, 1) again", x.addBefore(0, 1), 1);
        CHECK.same("addBefore(1, 0)", x.addBefore(1, 0), PlacerHead.CIRCLE);
        CHECK.same("addBefore(2, 2)", x.addBefore(2, 2), PlacerHead.CIRCLE);
        CHECK.same("addBefore(2, 3)", x.addBefore(2, 3), 2);
        CHECK.same("addBefore(1, 2)", x.addBefore(1, 2), 3);
        CHECK.same("addBefore(3, 0) through others", x.addBefore(3, 0), PlacerHead.CIRCLE);
        CHECK.same("addBefore(0, 3)", x.addBefore(0, 3), 4);
        CHECK.same("count(5)", x.count(5), 4);
        CHECK.index("addBefore(5, 0)", () -> x.addBefore(5, 0));
        CHECK.index("addBefore(0, 5)", () -> x.addBefore(0, 5));
        CHECK.index("addBefore(-1, -1)", () -> x.addBefore(-1, -1));
        CHECK.index("addBefore(5, 5)", () -> x.addBefore(5, 5));
    }

    private static void promise20Full() {
        StringBuilder text = new StringBuilder(BOARD.trim());
        text.append("spot 0 1 1").append(";spot 0 1 1".repeat(39));
        PlacerHead x = Check.machine(text.toString());
        for (int i = 0; i < 20; i++) {
            CHECK.same("addBefore(i, i + 1)", x.addBefore(i + 19, i + 20), i + 1);
        }
        CHECK.same("addBefore(0, 1), a 21st", x.addBefore(0, 1), PlacerHead.FULL);
        CHECK.same("addBefore(20, 21), a pair already", x.addBefore(20, 21), 20);
        CHECK.same("addBefore(39, 19), a circle", x.addBefore(39, 19), PlacerHead.CIRCLE);
        CHECK.same("addBefore(7, 7), a circle", x.addBefore(7, 7), PlacerHead.CIRCLE);
        CHECK.same("count(5)", x.count(5), 20);
        CHECK.same("chain(39)", x.chain(39), 20);
        CHECK.same("blockedBy(39)", x.blockedBy(39), 1L << 38);
        CHECK.same("fillableSet()", x.fillableSet(), (1L << 20) - 1);
        CHECK.yes("dropBefore(25, 26)", x.dropBefore(25, 26));
        CHECK.same("addBefore(39, 19), no circle now", x.addBefore(39, 19), 20);
    }

    private static void promise21() {
        PlacerHead x = Check.machine(BOARD + "spot 0 1 1; spot 0 1 1; spot 0 1 1; spot 0 1 1; before 0 1; before 1 2; before 2 3");
        CHECK.no("dropBefore(0, 2)", x.dropBefore(0, 2));
        CHECK.no("dropBefore(1, 0)", x.dropBefore(1, 0));
        CHECK.no("dropBefore(3, 3)", x.dropBefore(3, 3));
        CHECK.yes("dropBefore(0, 1)", x.dropBefore(0, 1));
        CHECK.no("dropBefore(0, 1) again", x.dropBefore(0, 1));
        CHECK.same("count(5)", x.count(5), 2);
        CHECK.same("blockedBy(1)", x.blockedBy(1), 0);
        CHECK.same("blockedBy(2)", x.blockedBy(2), 2);
        CHECK.same("blockedBy(3)", x.blockedBy(3), 4);
        CHECK.index("dropBefore(4, 0)", () -> x.dropBefore(4, 0));
        CHECK.index("dropBefore(0, 4)", () -> x.dropBefore(0, 4));
        CHECK.index("dropBefore(-1, 0)", () -> x.dropBefore(-1, 0));
        CHECK.index("dropBefore(0, -1)", () -> x.dropBefore(0, -1));
    }

    /** The pair that is named is the one that is taken away, in whatever order they were told. */
    private static void promise21EachOne() {
        int[][] pairs = {{3, 1}, {0, 2}, {4, 1}, {2, 4}, {0, 4}};
        for (int[] dropped : pairs) {
            PlacerHead x = Check.machine(BOARD + "spot 0 1 1; spot 0 1 1; spot 0 1 1; spot 0 1 1; spot 0 1 1");
            for (int i = 0; i < pairs.length; i++) {
                CHECK.same("addBefore of pair " + i, x.addBefore(pairs[i][0], pairs[i][1]), i + 1);
            }
            String call = "dropBefore(" + dropped[0] + ", " + dropped[1] + ")";
            CHECK.yes(call, x.dropBefore(dropped[0], dropped[1]));
            CHECK.same("count(5) behind " + call, x.count(5), 4);
            for (int spot = 0; spot < 5; spot++) {
                long due = 0;
                for (int[] pair : pairs) {
                    due |= pair[1] == spot && pair != dropped ? 1L << pair[0] : 0;
                }
                CHECK.same("blockedBy(" + spot + ") behind " + call, x.blockedBy(spot), due);
            }
            CHECK.no(call + " again", x.dropBefore(dropped[0], dropped[1]));
        }
    }

    private static void promise22() {
        PlacerHead x = Check.machine(BOARD + "spot 0 1 1; spot 0 1 1; spot 0 1 1; spot 0 1 1; before 0 3; before 1 3; before 2 1");
        CHECK.same("blockedBy(3)", x.blockedBy(3), 3);
        CHECK.same("blockedBy(1)", x.blockedBy(1), 4);
        CHECK.same("blockedBy(0)", x.blockedBy(0), 0);
        x.leaveOut(1, true);
        CHECK.same("blockedBy(3), one left out", x.blockedBy(3), 1);
        fill(x, 0, 0, 0);
        CHECK.same("blockedBy(3), one filled", x.blockedBy(3), 0);
        x.leaveOut(3, true);
        x.leaveOut(1, false);
        CHECK.same("blockedBy(3), left out itself", x.blockedBy(3), 2);
        CHECK.index("blockedBy(4)", () -> x.blockedBy(4));
        CHECK.index("blockedBy(-1)", () -> x.blockedBy(-1));
    }

    private static void promise23() {
        PlacerHead x = Check.machine(BOARD + "spot 0 1 1; spot 0 1 1; spot 0 1 1; spot 0 1 1; spot 0 1 1;"
            + "before 3 2; before 2 1; before 3 1; before 1 0; before 4 0");
        CHECK.same("chain(0)", x.chain(0), 3);
        CHECK.same("chain(1)", x.chain(1), 2);
        CHECK.same("chain(2)", x.chain(2), 1);
        CHECK.same("chain(3)", x.chain(3), 0);
        CHECK.same("chain(4)", x.chain(4), 0);
        x.leaveOut(2, true);
        CHECK.same("chain(0), whatever the states", x.chain(0), 3);
        x.dropBefore(2, 1);
        CHECK.same("chain(0), a pair less", x.chain(0), 2);
        CHECK.index("chain(5)", () -> x.chain(5));
        CHECK.index("chain(-1)", () -> x.chain(-1));
    }

    private static void promise24() {
        PlacerHead x = Check.machine(BOARD + "spot 0 1 1; spot 0 1 1; spot 0 1 1; spot 1 1 1; before 0 1; before 1 2");
        CHECK.same("fillableSet()", x.fillableSet(), 9);
        x.leaveOut(1, true);
        CHECK.same("fillableSet(): not through others", x.fillableSet(), 13);
        fill(x, 0, 0, 0);
        CHECK.same("fillableSet(), one filled", x.fillableSet(), 12);
        x.leaveOut(1, false);
        CHECK.same("fillableSet(), one taken in again", x.fillableSet(), 10);
        StringBuilder many = new StringBuilder(BOARD + "spot 0 1 1");
        many.append("; spot 0 1 1".repeat(39));
        CHECK.same("fillableSet() of 40", Check.machine(many.toString()).fillableSet(), (1L << 40) - 1);
    }

    private static void promise25() {
        StringBuilder many = new StringBuilder(BOARD + "spot 0 1 1");
        many.append("; spot 0 1 1".repeat(39));
        PlacerHead x = Check.machine(many.toString());
        CHECK.same("filledSet() at first", x.filledSet(), 0);
        fill(x, 0, 0, 39);
        CHECK.same("filledSet()", x.filledSet(), 1L << 39);
        fill(x, 0, 0, 31);
        x.leaveOut(5, true);
        CHECK.same("filledSet() of two", x.filledSet(), (1L << 39) + (1L << 31));
    }

    private static void promise26() {
        PlacerHead x = Check.machine(BOARD + "spot 0 1 1; spot 0 1 1; spot 0 1 1; before 0 1");
        CHECK.same("newBoard(), none filled", x.newBoard(), 0);
        x.leaveOut(2, true);
        fill(x, 0, 0, 0);
        fill(x, 1, 0, 1);
        int then = x.now();
        CHECK.same("newBoard()", x.newBoard(), 2);
        CHECK.same("filledSet()", x.filledSet(), 0);
        CHECK.same("fillableSet()", x.fillableSet(), 1);
        CHECK.same("spotValue(2, 3)", x.spotValue(2, 3), 2);
        CHECK.same("now()", x.now(), then);
        CHECK.same("ledger(0, 3)", x.ledger(0, 3), 2);
        CHECK.same("spindleValue(0, 4)", x.spindleValue(0, 4), 1);
        CHECK.same("newBoard() again", x.newBoard(), 0);
    }

    private static void promise27() {
        PlacerHead x = Check.machine(BOARD + "spot 0 1 1");
        CHECK.same("boards()", x.boards(), 1);
        x.newBoard();
        CHECK.same("boards() then", x.boards(), 2);
        x.newBoard();
        CHECK.same("boards() at last", x.boards(), 3);
    }
}
