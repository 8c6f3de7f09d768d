/** Sections 2 to 5 of the description, sentence by sentence where a sentence names a boundary case. */
public final class SectionTests {
    private static final Check CHECK = new Check("SectionTests");

    public static void main(String[] args) {
        section2Ways();
        section2Draws();
        section2DrawnNumbers();
        section2Change();
        section2Clean();
        section2Worn();
        section2WornPick();
        section3AtFirst();
        section3Misses();
        section3Waiting();
        section3EmptyReels();
        section4Wanted();
        section4Had();
        section4Load();
        section4Worn();
        section4LookAndPlace();
        section4Codes();
        section4Halted();
        section4HaltedStays();
        section5Log();
        section5Snapshot();
        section5Ahead();
        atAllLimits();
        CHECK.end();
    }

    // ---- 2. The head

    /** A move takes the greater one of both differences divided by SPEED, rounded up. */
    private static void section2Ways() {
        int[][] ways = {{1, 0, 0, 0}, {50, 0, 0, 0}, {1, 1, 0, 1}, {50, 1, 0, 1}, {50, 49, 0, 1}, {50, 50, 0, 1}, {50, 51, 0, 2},
            {50, 50, 51, 2}, {50, 51, 51, 2}, {1, 999, 0, 999}, {1, 0, 999, 999}, {1, 998, 999, 999}, {50, 999, 999, 20}, {7, 6, 15, 3},
            {7, 14, 6, 2}, {13, 26, 25, 2}, {13, 27, 25, 3}};
        for (int[] way : ways) {
            PlacerHead x = Check.machine("machine 1 " + way[0] + "; times 0 0 0 0; wear 0 0 0; vision 100 0 0; camera " + way[1] + " " + way[2]
                + "; nozzles 1; kind 0; feeder 0 0 9 0; spot 0 " + way[1] + " " + way[2]);
            String text = way[1] + ", " + way[2] + " at a SPEED of " + way[0];
            x.changeNozzle(0, 0);
            x.pick(0, 0);
            CHECK.same("now() at (0, 0)", x.now(), 0);
            x.look(0);
            CHECK.same("now() behind a way to " + text, x.now(), way[3]);
            CHECK.same("place(0, 0) without a way", x.place(0, 0), 1);
            CHECK.same("now() without a way", x.now(), way[3]);
            x.clean(0);
            CHECK.same("now() behind a way back from " + text, x.now(), 2 * way[3]);
        }
    }

    private static PlacerHead picker(int seed, String rest) {
        PlacerHead x = Check.machine("machine 1 50; times 0 0 0 0; camera 0 0; seed " + seed + "; nozzles 1; kind 0; spot 0 0 0; " + rest);
        x.changeNozzle(0, 0);
        return x;
    }

    /** The seed is below 2147483648 behind each draw; a draw of a large one must not wrap around. */
    private static void section2Draws() {
        int[] seeds = {0, 1, 999999};
        for (int seed : seeds) {
            PlacerHead x = picker(seed, "vision 0 0 0; feeder 0 0 500 50");
            long g = seed;
            for (int i = 0; i < 90; i++) {
                x.pick(0, 0);
                g = (g * 1103515245L + 12345L) % 2147483648L;
                CHECK.same("setting(10) behind a pick from a seed of " + seed, x.setting(10), g);
                if (x.spindleValue(0, 1) != PlacerHead.NONE) {
                    CHECK.same("the pick from a seed of " + seed + " did not miss", g / 65536 % 100 < 50 ? 1 : 0, 0);
                    x.look(0);
                    g = (g * 1103515245L + 12345L) % 2147483648L;
                    CHECK.same("setting(10) behind a look from a seed of " + seed, x.setting(10), g);
                } else {
                    CHECK.same("the pick from a seed of " + seed + " missed", g / 65536 % 100 < 50 ? 1 : 0, 1);
                }
            }
        }
    }

    /** The number that is drawn: seed / 65536, rounded down, modulo 100; fewer than MISS, than GOOD. */
    private static void section2DrawnNumbers() {
        for (int seed = 0; seed <= 999999; seed += 4099) {
            int[] drawn = Check.draws(seed, 2);
            CHECK.same("pick with MISS as drawn from " + seed, picker(seed, "feeder 0 0 9 " + drawn[0]).pick(0, 0), 1);
            CHECK.same("pick with MISS just beyond what is drawn from " + seed, picker(seed, "feeder 0 0 9 " + (drawn[0] + 1)).pick(0, 0), 0);
            PlacerHead x = picker(seed, "feeder 0 0 9 0; vision " + drawn[1] + " 0 5");
            x.pick(0, 0);
            CHECK.same("look with GOOD as drawn from " + seed, x.look(0), 2);
            PlacerHead y = picker(seed, "feeder 0 0 9 0; vision " + (drawn[1] + 1) + " 0 0");
            y.pick(0, 0);
            CHECK.same("look with GOOD just beyond what is drawn from " + seed, y.look(0), 1);
        }
    }

    /** The nozzle goes back into the magazine, if the spindle has one. */
    private static void section2Change() {
        PlacerHead x = Check.machine("machine 4 10; nozzles 4 1; kind 0");
        for (int spindle = 0; spindle < 4; spindle++) {
            CHECK.same("changeNozzle of the last ones", x.changeNozzle(spindle, 0), 1);
            CHECK.same("freeNozzles(0)", x.freeNozzles(0), 3 - spindle);
            CHECK.same("freeNozzles(1), none came back", x.freeNozzles(1), 1);
        }
        CHECK.same("changeNozzle(2, 1)", x.changeNozzle(2, 1), 1);
        CHECK.same("freeNozzles(0), one came back", x.freeNozzles(0), 1);
        CHECK.same("freeNozzles(1), none left", x.freeNozzles(1), 0);
        CHECK.same("changeNozzle(3, 1), none left", x.changeNozzle(3, 1), PlacerHead.EMPTY);
        CHECK.same("spindleValue(3, 0) stays", x.spindleValue(3, 0), 0);
        CHECK.same("spindleValue(3, 5): an error is no change", x.spindleValue(3, 5), 1);
    }

    private static void section2Clean() {
        PlacerHead x = Check.machine("machine 1 10; times 1 2 3 4; vision 100 0 0; wear 0 0 17; nozzles 1; kind 0; feeder 0 50 9 0; spot 0 30 91");
        x.changeNozzle(0, 0);
        x.pick(0, 0);
        x.look(0);
        x.place(0, 0);
        int then = x.now();
        CHECK.same("clean(0) at a spot", x.clean(0), 1);
        CHECK.same("now(): the way and CLEAN", x.now(), then + 10 + 17);
        CHECK.same("head(0) at the magazine", x.head(0), 0);
        CHECK.same("head(1) at the magazine", x.head(1), 0);
        CHECK.same("clean(0) again, without a way", x.clean(0), 1);
        CHECK.same("now() without a way", x.now(), then + 10 + 17 + 17);
    }

    /** Picks once, so that the wear is 1, with draws such that the second number is drawn by the next pick. */
    private static PlacerHead wornBy(String wear, int miss, int second) {
        PlacerHead x = picker(Check.seedFor(miss, 99, second, second), "wear " + wear + "; feeder 0 0 9 " + miss);
        x.pick(0, 0);
        x.discard(0);
        return x;
    }

    /** It is worn if LIMIT is greater than 0, and the wear is LIMIT or more. */
    private static void section2Worn() {
        CHECK.same("a pick with wear 1 and LIMIT 0", wornBy("0 100 0", 0, 50).pick(0, 0), 1);
        CHECK.same("a pick with wear 1 and LIMIT 1", wornBy("1 100 0", 0, 50).pick(0, 0), 0);
        CHECK.same("a pick with wear 1 and LIMIT 2", wornBy("2 100 0", 0, 50).pick(0, 0), 1);
        PlacerHead x = picker(1, "wear 200 100 0; feeder 0 0 500 0");
        for (int i = 0; i < 200; i++) {
            CHECK.same("a pick that is not worn", x.pick(0, 0), 1);
            x.discard(0);
        }
        CHECK.same("wear", x.spindleValue(0, 7), 200);
        CHECK.same("a pick with wear 200 and LIMIT 200", x.pick(0, 0), 0);
        CHECK.same("a pick with wear 201 and LIMIT 200", x.pick(0, 0), 0);
        x.set(12, 3);
        CHECK.same("a pick with wear 202 and LIMIT 3", x.pick(0, 0), 0);
        CHECK.same("nextAction() with wear beyond LIMIT", x.nextAction(), 60000);
        x.set(12, 0);
        CHECK.same("a pick with wear 203 and LIMIT 0", x.pick(0, 0), 1);
        x.discard(0);
        CHECK.same("nextAction() with LIMIT 0", x.nextAction(), 20000);
        x.set(12, 1);
        x.clean(0);
        CHECK.same("a pick with wear 0 and LIMIT 1", x.pick(0, 0), 1);
    }

    /** A pick fails below MISS + LOSS if the nozzle is worn ahead of this pick; it is LOSS, and not CLEAN. */
    private static void section2WornPick() {
        CHECK.same("a worn pick with a draw of MISS + LOSS", wornBy("1 30 7", 20, 50).pick(0, 0), 1);
        CHECK.same("a worn pick with a draw below MISS + LOSS", wornBy("1 30 7", 20, 49).pick(0, 0), 0);
        CHECK.same("a worn pick with LOSS 0", wornBy("1 0 200", 20, 20).pick(0, 0), 1);
        CHECK.same("a pick that is not worn with a draw of MISS", wornBy("2 30 7", 20, 20).pick(0, 0), 1);
        CHECK.same("a pick that is not worn with a draw below MISS", wornBy("2 30 7", 20, 19).pick(0, 0), 0);
        PlacerHead x = wornBy("1 100 0", 90, 99);
        CHECK.same("a worn pick with MISS + LOSS beyond 100", x.pick(0, 0), 0);
        PlacerHead y = picker(Check.seedFor(20, 99), "wear 1 80 0; feeder 0 0 9 20");
        CHECK.same("a pick by which it becomes worn", y.pick(0, 0), 1);
        CHECK.same("wear", y.spindleValue(0, 7), 1);
        PlacerHead z = picker(1, "wear 1 0 0; feeder 0 0 1 100; feeder 0 0 9 0");
        z.splice(0, 5);
        z.pick(0, 0);
        z.clean(0);
        CHECK.same("a pick that fails by the splice", z.pick(0, 0), 0);
        CHECK.same("nextAction(): it is no more worn by that", z.nextAction(), 20000);
    }

    // ---- 3. Feeders

    /** At the beginning no reel waits, and none was spliced. */
    private static void section3AtFirst() {
        PlacerHead x = Check.machine("machine 1 10; nozzles 1; kind 0; feeder 0 0 0 0; feeder 0 0 500 100");
        for (int feeder = 0; feeder < 2; feeder++) {
            CHECK.same("feederValue(" + feeder + ", 4) at first", x.feederValue(feeder, 4), 0);
            CHECK.same("feederValue(" + feeder + ", 7) at first", x.feederValue(feeder, 7), 0);
            CHECK.same("takeReel(" + feeder + ") at first", x.takeReel(feeder), PlacerHead.NONE);
        }
    }

    /** A draw of 0 does not miss with MISS 0, and one of 99 misses with MISS 100. */
    private static void section3Misses() {
        CHECK.same("a draw of 0 with MISS 0", picker(Check.seedFor(0, 0), "feeder 0 0 1 0").pick(0, 0), 1);
        CHECK.same("a draw of 0 with MISS 1", picker(Check.seedFor(0, 0), "feeder 0 0 1 1").pick(0, 0), 0);
        CHECK.same("a draw of 99 with MISS 99", picker(Check.seedFor(99, 99), "feeder 0 0 1 99").pick(0, 0), 1);
        PlacerHead x = picker(Check.seedFor(99, 99), "feeder 0 0 1 100");
        CHECK.same("a draw of 99 with MISS 100", x.pick(0, 0), 0);
        CHECK.same("feederValue(0, 2): the last part is lost", x.feederValue(0, 2), 0);
        CHECK.same("feederValue(0, 5)", x.feederValue(0, 5), 0);
        CHECK.same("feederValue(0, 6)", x.feederValue(0, 6), 1);
        CHECK.same("feederValue(0, 7): none waited", x.feederValue(0, 7), 0);
        CHECK.same("ledger(0, 5)", x.ledger(0, 5), 1);
        CHECK.same("pick(0, 0), none is left", x.pick(0, 0), PlacerHead.EMPTY);
    }

    /** At most 3 further reels; one that is spliced at once leaves room for 3. */
    private static void section3Waiting() {
        PlacerHead x = picker(1, "feeder 0 0 0 0");
        int[] waiting = {0, 1, 2, 3, PlacerHead.FULL, PlacerHead.FULL};
        for (int due : waiting) {
            CHECK.same("splice(0, 1)", x.splice(0, 1), due);
        }
        CHECK.same("feederValue(0, 2)", x.feederValue(0, 2), 1);
        CHECK.same("ledger(0, 0): a reel that is refused did not come", x.ledger(0, 0), 4);
        CHECK.same("pick(0, 0) by the splice", x.pick(0, 0), 0);
        CHECK.same("feederValue(0, 2): it takes no part", x.feederValue(0, 2), 1);
        CHECK.same("feederValue(0, 6): it loses none", x.feederValue(0, 6), 0);
        CHECK.same("pick(0, 0), the last part of the reel", x.pick(0, 0), 1);
        CHECK.same("feederValue(0, 4), the next one is spliced", x.feederValue(0, 4), 2);
        CHECK.same("feederValue(0, 7)", x.feederValue(0, 7), 1);
        CHECK.same("splice(0, 0): there is room again", x.splice(0, 0), 3);
        CHECK.same("takeReel(0), the last one", x.takeReel(0), 0);
        CHECK.same("takeReel(0), the one before", x.takeReel(0), 1);
    }

    /** A reel without parts is spliced at once if the reel has none; then the next one that comes, too. */
    private static void section3EmptyReels() {
        PlacerHead x = picker(1, "feeder 0 0 1 0; feeder 0 9 0 0");
        CHECK.same("splice(1, 0)", x.splice(1, 0), 0);
        CHECK.same("feederValue(1, 7)", x.feederValue(1, 7), 1);
        CHECK.same("splice(1, 0) again", x.splice(1, 0), 0);
        CHECK.same("takeReel(1): what is spliced waits no more", x.takeReel(1), PlacerHead.NONE);
        CHECK.same("pick(0, 1)", x.pick(0, 1), PlacerHead.EMPTY);
        CHECK.same("splice(1, 2)", x.splice(1, 2), 0);
        CHECK.same("pick(0, 1) by the splice", x.pick(0, 1), 0);
        CHECK.same("pick(0, 1)", x.pick(0, 1), 1);
        x.discard(0);
        for (int i = 1; i <= 3; i++) {
            CHECK.same("splice(0, 0) behind a reel with parts", x.splice(0, 0), i);
        }
        CHECK.same("pick(0, 0), the last part", x.pick(0, 0), 1);
        CHECK.same("feederValue(0, 4): all three are spliced", x.feederValue(0, 4), 0);
        CHECK.same("feederValue(0, 2)", x.feederValue(0, 2), 0);
        CHECK.same("feederValue(0, 7)", x.feederValue(0, 7), 1);
        CHECK.same("nearestFeeder(0): a reel without parts is none", x.nearestFeeder(0), 1);
    }

    // ---- 4. The plan

    /** More spots that are open and not blocked than parts on the head: not as many, and not fewer. */
    private static void section4Wanted() {
        PlacerHead x = Check.machine("machine 4 10; vision 100 0 0; nozzles 4; kind 0; feeder 0 9 99 0; spot 0 1 1; spot 0 2 2; spot 0 3 3;"
            + "spot 0 4 4; before 0 3");
        for (int spindle = 0; spindle < 4; spindle++) {
            x.changeNozzle(spindle, 0);
        }
        x.pick(0, 0);
        x.pick(1, 0);
        CHECK.same("nextAction(), 3 spots for 2 parts", x.nextAction(), 20200);
        x.leaveOut(1, true);
        CHECK.same("nextAction(), 2 spots for 2 parts", x.nextAction(), 30000);
        x.leaveOut(2, true);
        CHECK.same("nextAction(), 1 spot for 2 parts", x.nextAction(), 30000);
        x.look(0);
        x.look(1);
        CHECK.same("nextAction(), ready ones count", x.nextAction(), 40000);
        x.leaveOut(1, false);
        x.leaveOut(2, false);
        CHECK.same("nextAction(), 3 spots for 2 ready parts", x.nextAction(), 20200);
        x.leaveOut(0, true);
        CHECK.same("nextAction(), another one is not blocked now", x.nextAction(), 20200);
        x.pick(2, 0);
        CHECK.same("nextAction(), 3 spots for 3 parts", x.nextAction(), 30200);
    }

    /** A kind can be had if a reel has parts; one that fails by a splice has them. */
    private static void section4Had() {
        PlacerHead x = Check.machine("machine 2 10; nozzles 2; kind 0; feeder 0 9 0 0; feeder 0 500 0 0; spot 0 1 1; spot 0 1 1; spot 0 1 1");
        CHECK.same("nextAction() without parts", x.nextAction(), PlacerHead.NONE);
        x.splice(0, 0);
        CHECK.same("nextAction() with a reel without parts", x.nextAction(), PlacerHead.NONE);
        x.splice(1, 1);
        CHECK.same("nextAction() with a part", x.nextAction(), 10000);
        x.step();
        CHECK.same("nextAction() with a part that was spliced", x.nextAction(), 20001);
        CHECK.same("step() by the splice", x.step(), 0);
        CHECK.same("nextAction() once more", x.nextAction(), 20001);
        CHECK.same("step()", x.step(), 1);
        CHECK.same("nextAction(), none is left", x.nextAction(), 30000);
    }

    private static void section4Load() {
        String text = "machine 2 50; nozzles 1 1; kind 1; kind 0; kind 1; feeder 0 100 1 0; feeder 1 300 1 0; feeder 2 200 1 0;";
        PlacerHead x = Check.machine(text + "spot 0 1 1; spot 1 1 1; spot 2 1 1");
        x.changeNozzle(0, 1);
        CHECK.same("nextAction(): of two kinds for its nozzle the smallest", x.nextAction(), 20000);
        PlacerHead y = Check.machine(text + "spot 2 1 1; spot 1 1 1");
        y.changeNozzle(0, 1);
        CHECK.same("nextAction(): a greater kind for its nozzle ahead of a change", y.nextAction(), 20002);
        PlacerHead z = Check.machine(text + "spot 0 1 1");
        z.changeNozzle(1, 1);
        CHECK.same("nextAction(): no nozzle for spindle 0, a pick by spindle 1", z.nextAction(), 20100);
        z.changeNozzle(1, 0);
        z.changeNozzle(0, 1);
        z.changeNozzle(1, 0);
        CHECK.same("nextAction(): spindle 0", z.nextAction(), 20000);
        PlacerHead w = Check.machine("machine 1 50; nozzles 1 1; kind 0; kind 1; feeder 1 100 1 0; spot 1 1 1");
        w.changeNozzle(0, 0);
        CHECK.same("nextAction(): a change from another type", w.nextAction(), 10001);
        PlacerHead v = Check.machine("machine 3 50; vision 100 0 0; nozzles 1; kind 0; feeder 0 100 9 0; spot 0 1 1; spot 0 2 2");
        v.changeNozzle(2, 0);
        v.pick(2, 0);
        CHECK.same("nextAction(): no nozzle is left for the others", v.nextAction(), 30200);
        PlacerHead u = Check.machine("machine 1 50; nozzles 1; kind 0; feeder 0 400 1 0; feeder 0 201 1 0; feeder 0 399 1 0; feeder 0 200 1 0;"
            + "feeder 0 0 9 0; kind 0; feeder 1 300 1 0; spot 0 1 1");
        u.changeNozzle(0, 0);
        u.pick(0, 5);
        u.discard(0);
        CHECK.same("head(0)", u.head(0), 300);
        CHECK.same("nextAction(): the nearest, of several the smallest", u.nextAction(), 20001);
    }

    /** A clean instead of a pick, not instead of a change. */
    private static void section4Worn() {
        PlacerHead x = Check.machine("machine 2 10; vision 100 0 0; wear 1 0 5; nozzles 1 1; kind 0; kind 1; feeder 0 9 9 0; feeder 1 9 9 0;"
            + "spot 0 1 1; spot 1 1 1");
        x.changeNozzle(1, 0);
        x.pick(1, 0);
        x.discard(1);
        CHECK.same("nextAction(): a change of spindle 0", x.nextAction(), 10001);
        x.step();
        x.step();
        CHECK.same("nextAction(): spindle 1 is worn", x.nextAction(), 60100);
        CHECK.same("step(), a clean", x.step(), 1);
        CHECK.same("nextAction() then", x.nextAction(), 20100);
        CHECK.same("done(6)", x.done(6), 1);
        PlacerHead y = Check.machine("machine 1 10; wear 1 0 5; nozzles 1; kind 0; feeder 0 9 9 0; spot 0 1 1");
        y.changeNozzle(0, 0);
        y.pick(0, 0);
        y.discard(0);
        y.leaveOut(0, true);
        CHECK.same("nextAction(): worn, and nothing is wanted", y.nextAction(), PlacerHead.NONE);
    }

    private static void section4LookAndPlace() {
        PlacerHead x = Check.machine("machine 3 10; vision 100 0 0; camera 0 0; nozzles 3; kind 0; kind 0; feeder 0 0 9 0; feeder 1 0 9 0;"
            + "spot 0 11 0; spot 0 0 20; spot 1 9 9; spot 0 12 0; before 2 3");
        x.run(6);
        CHECK.same("nextAction(): the look of the smallest spindle", x.nextAction(), 30000);
        x.look(2);
        x.look(0);
        CHECK.same("nextAction(): looks come ahead of places", x.nextAction(), 30100);
        x.look(1);
        CHECK.same("nextAction(): as short a time, the smallest spot", x.nextAction(), 40000);
        x.leaveOut(0, true);
        CHECK.same("nextAction(): a blocked spot is none", x.nextAction(), 40001);
        x.leaveOut(1, true);
        CHECK.same("nextAction(): all are left out or blocked", x.nextAction(), 50000);
        x.leaveOut(2, true);
        CHECK.same("nextAction(): not blocked by one that is left out", x.nextAction(), 40003);
    }

    /** 10000 * its number + 100 * the spindle + the type, feeder or spot, 0 for the actions 3, 5 and 6. */
    private static void section4Codes() {
        PlacerHead x = Check.machine("machine 4 10;vision 100 0 0;nozzles 1 1 1 1 1 1;kind 5" + ";feeder 0 9 9 0".repeat(10) + ";spot 0 9 9".repeat(40));
        x.changeNozzle(3, 5);
        x.pick(3, 9);
        x.look(3);
        x.place(3, 39);
        x.clean(3);
        x.setMiss(8, 100);
        x.pick(3, 8);
        x.pick(3, 7);
        x.discard(3);
        x.pick(3, 9);
        x.set(5, 0);
        x.set(6, 100);
        x.set(7, 1);
        x.look(3);
        x.set(6, 0);
        x.look(3);
        int[] codes = {10305, 20309, 30300, 40339, 60300, 20308, 20307, 50300, 20309, 30300, 30300};
        int[] results = {1, 1, 1, 1, 1, 0, 1, 1, 1, 0, 2};
        CHECK.same("logSize()", x.logSize(), codes.length);
        for (int i = 0; i < codes.length; i++) {
            CHECK.same("logEntry(" + i + ", 0)", x.logEntry(i, 0), codes[i]);
            CHECK.same("logEntry(" + i + ", 1)", x.logEntry(i, 1), results[i]);
        }
        for (int spot = 0; spot < 39; spot++) {
            x.leaveOut(spot, true);
        }
        x.newBoard();
        CHECK.same("nextAction(), a pick by spindle 3", x.nextAction(), 20300);
        x.step();
        CHECK.same("nextAction(), a look", x.nextAction(), 30300);
        x.set(5, 100);
        x.step();
        CHECK.same("nextAction(), a place on spot 39", x.nextAction(), 40339);
        x.leaveOut(39, true);
        CHECK.same("nextAction(), a discard", x.nextAction(), 50300);
    }

    private static PlacerHead rejecting(int alarm, int rejected) {
        PlacerHead x = Check.machine("machine 1 10; vision 0 0 0; alarm " + alarm + "; nozzles 1; kind 0; feeder 0 9 99 0; spot 0 1 1");
        x.changeNozzle(0, 0);
        for (int i = 0; i < rejected; i++) {
            look(x, 0, 2);
        }
        return x;
    }

    private static void look(PlacerHead x, int good, int result) {
        x.set(5, good);
        x.pick(0, 0);
        CHECK.same("look(0)", x.look(0), result);
        x.discard(0);
    }

    /** Halted by the ALARM-th of the looks that count, or a later one, if ALARM is greater than 0. */
    private static void section4Halted() {
        int[] alarms = {1, 2, 19, 20};
        for (int alarm : alarms) {
            CHECK.no("isHalted() just ahead of " + alarm, rejecting(alarm, alarm - 1).isHalted());
            CHECK.yes("isHalted() behind " + alarm, rejecting(alarm, alarm).isHalted());
        }
        CHECK.no("isHalted() with ALARM 0", rejecting(0, 40).isHalted());
        PlacerHead x = rejecting(2, 1);
        look(x, 100, 1);
        look(x, 0, 2);
        CHECK.no("isHalted(): a good look between", x.isHalted());
        look(x, 0, 2);
        CHECK.yes("isHalted() by the second one", x.isHalted());
        PlacerHead y = rejecting(0, 5);
        y.set(11, 3);
        CHECK.no("isHalted(): not by set()", y.isHalted());
        look(y, 0, 2);
        CHECK.yes("isHalted() by a later one than the third", y.isHalted());
        PlacerHead z = rejecting(3, 2);
        CHECK.no("resume(), not halted", z.resume());
        look(z, 0, 2);
        look(z, 0, 2);
        CHECK.no("isHalted(): the looks before resume() count no more", z.isHalted());
        look(z, 0, 2);
        CHECK.yes("isHalted() by the third one behind resume()", z.isHalted());
        PlacerHead w = rejecting(2, 1);
        for (int i = 0; i < 5; i++) {
            w.pick(0, 0);
            w.discard(0);
        }
        w.setMiss(0, 100);
        w.pick(0, 0);
        w.newBoard();
        CHECK.no("isHalted(): discards and misses are no looks", w.isHalted());
        w.setMiss(0, 0);
        look(w, 0, 2);
        CHECK.yes("isHalted(): nor do they end the count, nor does a new board", w.isHalted());
    }

    private static void section4HaltedStays() {
        PlacerHead x = rejecting(2, 2);
        look(x, 100, 1);
        x.set(11, 0);
        x.set(11, 20);
        x.newBoard();
        CHECK.yes("isHalted() whatever comes between", x.isHalted());
        CHECK.same("nextAction(), halted", x.nextAction(), PlacerHead.NONE);
        CHECK.same("run(500), halted", x.run(500), 0);
        CHECK.same("clean(0), halted", x.clean(0), 1);
        CHECK.yes("resume()", x.resume());
        CHECK.same("nextAction() then", x.nextAction(), 20000);
        PlacerHead y = rejecting(1, 1);
        look(y, 0, 2);
        CHECK.yes("isHalted() by one, and one more", y.isHalted());
        CHECK.yes("resume()", y.resume());
        CHECK.no("resume() again", y.resume());
        look(y, 0, 2);
        CHECK.yes("isHalted() anew", y.isHalted());
    }

    // ---- 5. Errors and snapshots

    /** The log keeps the latest 40 actions. */
    private static void section5Log() {
        PlacerHead x = Check.machine("machine 1 10; times 1 1 1 1; nozzles 1 1; kind 0");
        for (int i = 0; i < 40; i++) {
            CHECK.same("logSize()", x.logSize(), i);
            CHECK.same("logEntry of the next one", x.logEntry(i, 2), PlacerHead.NONE);
            x.changeNozzle(0, i % 2);
            CHECK.same("logEntry of the latest one", x.logEntry(i, 2), i + 1);
        }
        CHECK.same("logEntry(0, 2) of 40", x.logEntry(0, 2), 1);
        CHECK.same("logEntry(39, 2) of 40", x.logEntry(39, 2), 40);
        CHECK.same("logEntry(40, 2) of 40", x.logEntry(40, 2), PlacerHead.NONE);
        for (int i = 41; i <= 125; i++) {
            x.changeNozzle(0, (i - 1) % 2);
            CHECK.same("logEntry(0, 2) of " + i, x.logEntry(0, 2), i - 39);
            CHECK.same("logEntry(39, 2) of " + i, x.logEntry(39, 2), i);
        }
        CHECK.same("logSize() of 125", x.logSize(), 40);
        CHECK.same("logEntry(40, 2) of 125", x.logEntry(40, 2), PlacerHead.NONE);
        for (int i = 0; i < 40; i++) {
            CHECK.same("logEntry(" + i + ", 0) of 125", x.logEntry(i, 0), 10000 + (i + 85) % 2);
        }
    }

    /** What cannot be asked is in a snapshot too: the looks that count for ALARM. */
    private static void section5Snapshot() {
        PlacerHead x = rejecting(3, 2);
        x.saveSnapshot(0);
        x.resume();
        x.saveSnapshot(1);
        x.restoreSnapshot(0);
        look(x, 0, 2);
        CHECK.yes("isHalted(): two looks were saved", x.isHalted());
        x.restoreSnapshot(1);
        CHECK.no("isHalted() of the other slot", x.isHalted());
        look(x, 0, 2);
        look(x, 0, 2);
        CHECK.no("isHalted(): no looks were saved", x.isHalted());
        x.restoreSnapshot(0);
        CHECK.same("actionsToEnd(): a pick and a look", x.actionsToEnd(), 2);
        x.restoreSnapshot(1);
        CHECK.same("actionsToEnd(): three of each", x.actionsToEnd(), 6);
    }

    /** Predictions go on at most 1000 actions; an end just then is one. */
    private static void section5Ahead() {
        String text = "machine 1 1; times 0 0 0 0; vision 0 0 0; camera 0 0; nozzles 1; kind 0; spot 0 0 0;";
        PlacerHead x = Check.machine(text + "feeder 0 0 500 0");
        x.step();
        CHECK.same("actionsToEnd() of 1000", x.actionsToEnd(), 1000);
        CHECK.same("timeAtEnd() of 1000", x.timeAtEnd(), 0);
        CHECK.same("runsOut(0) behind 999 actions", x.runsOut(0), 999);
        CHECK.same("dearestSpot(), the plan ends", x.dearestSpot(), 0);
        x.discard(0);
        x.splice(0, 0);
        CHECK.same("actionsToEnd() of 1000 with an empty reel behind", x.actionsToEnd(), 1000);
        CHECK.same("splicesAhead() behind 999 actions", x.splicesAhead(), 1);
        PlacerHead y = Check.machine(text + "feeder 0 0 500 0");
        CHECK.same("actionsToEnd() of 1001", y.actionsToEnd(), PlacerHead.NONE);
        CHECK.same("timeAtEnd() of 1001", y.timeAtEnd(), PlacerHead.NONE);
        CHECK.same("runsOut(0) behind 1000 actions", y.runsOut(0), 1000);
        CHECK.same("changesAhead() in 1000 actions", y.changesAhead(), 1);
        y.splice(0, 1);
        CHECK.same("splicesAhead() behind 1000 actions", y.splicesAhead(), 1);
        CHECK.same("runsOut(0) behind more", y.runsOut(0), PlacerHead.NONE);
        PlacerHead z = Check.machine(text + "feeder 0 0 499 0; feeder 0 9 1 0");
        z.splice(0, 1);
        CHECK.same("splicesAhead() behind 998 actions", z.splicesAhead(), 1);
    }

    /** 4 spindles, 6 types, 8 kinds, 10 feeders and 40 spots: each of the last ones is used. */
    private static void atAllLimits() {
        StringBuilder text = new StringBuilder("machine 4 50;vision 100 0 0;nozzles 1 1 1 1 1 4");
        for (int kind = 0; kind < 8; kind++) {
            text.append(";kind ").append(kind < 6 ? kind : 5);
        }
        for (int feeder = 0; feeder < 10; feeder++) {
            text.append(";feeder ").append(feeder < 8 ? feeder : 7).append(" 9 ").append(feeder < 8 ? 4 : 2).append(" 0");
        }
        for (int spot = 0; spot < 40; spot++) {
            text.append(";spot ").append(spot < 32 ? spot / 4 : 7).append(" 5 5");
        }
        PlacerHead x = Check.machine(text.toString());
        int[] counts = {4, 6, 8, 10, 40, 20};
        for (int i = 0; i < 20; i++) {
            CHECK.same("addBefore", x.addBefore(i, 39 - i), i + 1);
        }
        for (int what = 0; what < counts.length; what++) {
            CHECK.same("count(" + what + ")", x.count(what), counts[what]);
        }
        CHECK.same("fillableSet() of 20", x.fillableSet(), (1L << 20) - 1);
        CHECK.same("filledAtEnd(): 4 parts are missing", x.filledAtEnd(), 36);
        x.splice(9, 500);
        CHECK.same("filledAtEnd()", x.filledAtEnd(), 40);
        CHECK.same("bestSwap(): all feeders stand at the same X", x.bestSwap(), PlacerHead.NONE);
        CHECK.same("boardsPossible()", x.boardsPossible(), 1);
        x.run(500);
        CHECK.same("filledSet()", x.filledSet(), (1L << 40) - 1);
        CHECK.same("fillableSet()", x.fillableSet(), 0);
        CHECK.same("spotValue(39, 3)", x.spotValue(39, 3), 1);
        CHECK.no("leaveOut(39, true), filled", x.leaveOut(39, true));
        CHECK.no("leaveOut(39, false), filled", x.leaveOut(39, false));
        CHECK.same("boardsPossible(): this one is done", x.boardsPossible(), 1);
        CHECK.same("newBoard()", x.newBoard(), 40);
        CHECK.same("boardsPossible(), nothing is left", x.boardsPossible(), 0);
        for (int spot = 0; spot < 40; spot++) {
            CHECK.same("spotValue(" + spot + ", 3) on a new board", x.spotValue(spot, 3), 0);
        }
        CHECK.yes("isBalanced()", x.isBalanced());
    }
}
