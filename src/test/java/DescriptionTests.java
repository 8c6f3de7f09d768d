/** Promises 1 to 7, and sections 1 and 5 of the description. */
public final class DescriptionTests {
    private static final Check CHECK = new Check("DescriptionTests");

    public static void main(String[] args) {
        promise1();
        promise2();
        promise3Right();
        promise3Words();
        promise3Ranges();
        promise3NotTold();
        promise3Limits();
        promise3Circles();
        promise3Statements();
        promise3Bytes();
        promise3Length();
        promise3Many();
        promise3FirstError();
        promise3Defaults();
        promise3BeginsAnew();
        promise3AsNew();
        promise3Counts();
        promise4();
        promise5();
        promise6();
        promise7();
        CHECK.end();
    }

    private static void promise1() {
        PlacerHead x = new PlacerHead();
        int[] settings = {10, 30, 10, 8, 10, 90, 6, 2, 500, 0, 1, 0, 0, 0, 20};
        for (int what = 0; what < settings.length; what++) {
            CHECK.same("new: setting(" + what + ")", x.setting(what), settings[what]);
        }
        CHECK.same("new: count(0)", x.count(0), 1);
        for (int what = 1; what <= 5; what++) {
            CHECK.same("new: count(" + what + ")", x.count(what), 0);
        }
        CHECK.same("new: loadError()", x.loadError(), 0);
        CHECK.same("new: append(0)", x.append(0), 0);
        CHECK.same("new: restoreSnapshot(0)", x.restoreSnapshot(0), PlacerHead.NONE);
        CHECK.same("new: restoreSnapshot(1)", x.restoreSnapshot(1), PlacerHead.NONE);
        CHECK.same("new: now()", x.now(), 0);
        CHECK.same("new: head(0)", x.head(0), 0);
        CHECK.same("new: head(1)", x.head(1), 0);
        CHECK.same("new: boards()", x.boards(), 1);
        CHECK.same("new: logSize()", x.logSize(), 0);
        CHECK.no("new: isHalted()", x.isHalted());
        CHECK.same("new: spindleValue(0, 0)", x.spindleValue(0, 0), PlacerHead.NONE);
        CHECK.same("new: spindleValue(0, 1)", x.spindleValue(0, 1), PlacerHead.NONE);
        CHECK.index("new: spindleValue(1, 0)", () -> x.spindleValue(1, 0));
        CHECK.index("new: freeNozzles(0)", () -> x.freeNozzles(0));
        CHECK.same("new: nextAction()", x.nextAction(), PlacerHead.NONE);
    }

    private static void promise2() {
        PlacerHead x = new PlacerHead();
        CHECK.same("append(0)", x.append(0), 0);
        CHECK.same("append of one byte", x.append('m'), 1);
        // "ac" and "hine 1 7" with zero bytes between and around
        CHECK.same("append with zeros", x.append(0x0061006300000000L), 3);
        CHECK.same("append of eight", x.append(0x68696e6520312037L), 11);
        CHECK.same("load() of what was appended", x.load(), 0);
        CHECK.same("setting(0)", x.setting(0), 7);
        CHECK.same("append(0) behind load()", x.append(0), 0);
        CHECK.same("append(-1)", x.append(-1L), 8);
        CHECK.same("append(Long.MIN_VALUE)", x.append(Long.MIN_VALUE), 9);
        CHECK.same("load() of high bytes", x.load(), -100);
        fullBuffer();
    }

    private static void fullBuffer() {
        PlacerHead x = new PlacerHead();
        Check.type(x, "machine 1 3");
        String spaces = " ".repeat(8);
        for (int i = 0; i < 110; i++) {
            Check.type(x, spaces);
        }
        CHECK.same("append(0) at 891", x.append(0), 891);
        CHECK.same("append to 899", Check.type(x, spaces), 899);
        CHECK.same("append beyond 900", x.append(0x2020), PlacerHead.FULL);
        CHECK.same("append(0) behind FULL", x.append(0), 899);
        CHECK.same("append to 900", x.append(0x20), 900);
        CHECK.same("append to 901", x.append(0x20), PlacerHead.FULL);
        CHECK.same("append(0) at 900", x.append(0), 900);
        CHECK.same("load() of 900 bytes", x.load(), 0);
        CHECK.same("setting(0) of 900 bytes", x.setting(0), 3);
        CHECK.same("append anew", x.append('m'), 1);
        nearlyFullBuffer();
    }

    private static void nearlyFullBuffer() {
        PlacerHead x = new PlacerHead();
        Check.type(x, " ".repeat(893));
        CHECK.same("append of eight at 893", x.append(0x0101010101010101L), PlacerHead.FULL);
        CHECK.same("append of seven and a zero at 893", x.append(0x0101010001010101L), 900);
        for (int shift = 0; shift < 64; shift += 8) {
            CHECK.same("append of byte 1 at 900", x.append(1L << shift), PlacerHead.FULL);
            CHECK.same("append of byte 128 at 900", x.append(128L << shift), PlacerHead.FULL);
        }
        CHECK.same("append of no byte at 900", x.append(0), 900);
        CHECK.same("load() of spaces and others", x.load(), -993);
    }

    /** A text that is wrong at the place of its sign |, which is not part of it. */
    private static void wrong(int error, String marked) {
        int position = marked.indexOf('|');
        String text = marked.substring(0, position) + marked.substring(position + 1);
        PlacerHead x = Check.machine("machine 3 7; nozzles 2; kind 0; spot 0 5 5");
        Check.type(x, text);
        CHECK.same("load() of \"" + text + "\"", x.load(), -100 - position);
        CHECK.same("loadError() of \"" + text + "\"", x.loadError(), error);
        CHECK.same("append(0) behind \"" + text + "\"", x.append(0), 0);
        CHECK.same("count(0) behind \"" + text + "\"", x.count(0), 3);
        CHECK.same("setting(0) behind \"" + text + "\"", x.setting(0), 7);
        CHECK.same("count(1) behind \"" + text + "\"", x.count(1), 1);
        CHECK.same("count(4) behind \"" + text + "\"", x.count(4), 1);
    }

    private static PlacerHead right(String text, int spots) {
        PlacerHead x = new PlacerHead();
        Check.type(x, text);
        CHECK.same("load() of \"" + text + "\"", x.load(), spots);
        CHECK.same("loadError() of \"" + text + "\"", x.loadError(), 0);
        return x;
    }

    private static void promise3Right() {
        right("machine 1 1", 0);
        right("machine 4 50", 0);
        right("  machine1 50  ", 0);
        right("machine 0001 0050;times0 200 0 200", 0);
        PlacerHead x = right("machine 2 5 ; times 1 2 3 4;vision 10 90 5; camera 7 999 ;seed 999999;alarm 20; wear 200 100 0", 0);
        int[] settings = {5, 1, 2, 3, 4, 10, 90, 5, 7, 999, 999999, 20, 200, 100, 0};
        for (int what = 0; what < settings.length; what++) {
            CHECK.same("told: setting(" + what + ")", x.setting(what), settings[what]);
        }
        PlacerHead y = right("machine 1 1;times 5 5 5 5;alarm 3;times 6 7 8 9;alarm 0;vision 100 0 0;vision 20 70 1;"
            + "camera 1 1;camera 2 3;seed 5;seed 0;wear 1 1 1;wear 2 3 4", 0);
        int[] last = {1, 6, 7, 8, 9, 20, 70, 1, 2, 3, 0, 0, 2, 3, 4};
        for (int what = 0; what < last.length; what++) {
            CHECK.same("the last one: setting(" + what + ")", y.setting(what), last[what]);
        }
        PlacerHead z = right("machine 1 1;nozzles 1 2;kind 1;nozzles 3;kind 2;feeder 1 999 500 100;spot 1 0 999;spot 0 999 0;"
            + "before 1 0;before 1 0;feeder 0 0 0 0", 2);
        int[] counts = {1, 3, 2, 2, 2, 1};
        for (int what = 0; what < counts.length; what++) {
            CHECK.same("count(" + what + ")", z.count(what), counts[what]);
        }
        CHECK.same("freeNozzles(2)", z.freeNozzles(2), 3);
        CHECK.same("spotValue(0, 0)", z.spotValue(0, 0), 1);
        CHECK.same("spotValue(0, 2)", z.spotValue(0, 2), 999);
        CHECK.same("spotValue(1, 1)", z.spotValue(1, 1), 999);
        CHECK.same("blockedBy(0)", z.blockedBy(0), 2);
    }

    private static void promise3Words() {
        wrong(1, "|");
        wrong(1, "   |");
        wrong(1, "|;");
        wrong(1, "|times 1 2 3 4");
        wrong(1, "|1 machine");
        wrong(1, "  |machines 1 1");
        wrong(1, "|machin 1 1");
        wrong(1, "|Machine 1 1");
        wrong(1, "machine|");
        wrong(1, "machine  |");
        wrong(1, "machine |;");
        wrong(1, "machine |x 1");
        wrong(1, "machine |-1 1");
        wrong(1, "machine 1|");
        wrong(1, "machine 1 |;");
        wrong(1, "machine 1|;times 1 1 1 1");
        wrong(1, "machine 1 1;|");
        wrong(1, "machine 1 1;  |");
        wrong(1, "machine 1 1;|;");
        wrong(1, "machine 1 1 |1");
        wrong(1, "machine 1 1|x");
        wrong(1, "machine 1 1 |times 1 1 1 1");
        wrong(1, "machine 1 1;|machine 1 1");
        wrong(1, "machine 1 1; |5");
        wrong(1, "machine 1 1; |Times 1 1 1 1");
        wrong(1, "machine 1 1; |time 1 1 1 1");
        wrong(1, "machine 1 1; |seedx 1");
        wrong(1, "machine 1 1; times 1 1 1|");
        wrong(1, "machine 1 1; times 1 1 1 1 |1");
        wrong(1, "machine 1 1; times 1 1 1|\t1");
        wrong(1, "machine 1 1; nozzles|");
        wrong(1, "machine 1 1; nozzles |;");
        wrong(1, "machine 1 1; nozzles 1 |kind 0");
        wrong(1, "machine 1 1; nozzles 1; kind |;");
        wrong(1, "machine 1 1; nozzles 1; kind 0; feeder 0 1 1|");
        wrong(1, "machine 1 1; nozzles 1; kind 0; spot 0 1|");
        wrong(1, "machine 1 1; nozzles 1; kind 0; spot 0 1 1 |1");
        wrong(1, "machine 1 1; nozzles 1; kind 0; spot 0 1 1; spot 0 1 1; before 0|");
        wrong(1, "machine 1 1|,");
        wrong(1, "machine 1 1 |\u00e9");
        wrong(1, "|mach");
    }

    private static void promise3Ranges() {
        wrong(2, "machine |0 1");
        wrong(2, "machine |5 1");
        wrong(2, "machine |5x");
        wrong(2, "machine 1 |0");
        wrong(2, "machine 1 |51");
        wrong(2, "machine |99999999999999999999999 1");
        wrong(2, "machine |4294967297 1");
        for (int i = 0; i < 4; i++) {
            wrong(2, "machine 1 1; times " + "200 ".repeat(i) + "|201" + " 0".repeat(3 - i));
        }
        wrong(2, "machine 1 1; vision |101 0 0");
        wrong(2, "machine 1 1; vision 40 |61 0");
        wrong(2, "machine 1 1; vision 40 60 |6");
        wrong(2, "machine 1 1; camera |1000 0");
        wrong(2, "machine 1 1; camera 999 |1000");
        wrong(2, "machine 1 1; seed |1000000");
        wrong(2, "machine 1 1; alarm |21");
        wrong(2, "machine 1 1; wear |201 0 0");
        wrong(2, "machine 1 1; wear 200 |101 0");
        wrong(2, "machine 1 1; wear 200 100 |201");
        wrong(2, "machine 1 1; alarm |21; alarm 1");
        wrong(2, "machine 1 1; nozzles |0");
        wrong(2, "machine 1 1; nozzles 4 |5");
        wrong(2, "machine 1 1; kind |0");
        wrong(2, "machine 1 1; nozzles 1 1; kind |2");
        wrong(2, "machine 1 1; kind |0; nozzles 1");
        wrong(2, "machine 1 1; nozzles 1; feeder |0 0 0 0");
        String kinds = "machine 1 1; nozzles 1; kind 0; kind 0; ";
        wrong(2, kinds + "feeder |2 0 0 0");
        wrong(2, kinds + "feeder 1 |1000 0 0");
        wrong(2, kinds + "feeder 1 999 |501 0");
        wrong(2, kinds + "feeder 1 999 500 |101");
        wrong(2, kinds + "spot |2 0 0");
        wrong(2, kinds + "spot 1 |1000 0");
        wrong(2, kinds + "spot 1 999 |1000");
        wrong(2, kinds + "before |0 0");
        wrong(2, kinds + "spot 0 1 1; spot 0 1 1; before |2 0");
        wrong(2, kinds + "spot 0 1 1; spot 0 1 1; before 1 |2; spot 0 1 1");
    }

    /** Types, kinds and spots that were not told, far from those that were. */
    private static void promise3NotTold() {
        String some = "machine 1 1; nozzles 1; kind 0; spot 0 1 1; spot 0 1 1; ";
        String[] numbers = {"2", "6", "8", "10", "32", "39", "40", "63", "64", "65", "128", "256", "900", "65536", "999999", "2147483647",
            "2147483648", "4294967296", "18446744073709551616"};
        for (String number : numbers) {
            wrong(2, some.replace("kind 0", "kind |" + number));
            wrong(2, some + "feeder |" + number + " 0 0 0");
            wrong(2, some + "spot |" + number + " 0 0");
            wrong(2, some + "before |" + number + " 0");
            wrong(2, some + "before 1 |" + number);
        }
    }

    private static void promise3Limits() {
        right("machine 1 1; nozzles 1 1 1 1 1; nozzles 4", 0);
        wrong(3, "machine 1 1; nozzles 1 1 1 1 1 1 |1");
        wrong(3, "machine 1 1; nozzles 1 1 1 1 1; nozzles 1 |9");
        wrong(3, "machine 1 1; nozzles 1 1 1 1 1 1; nozzles |0");
        wrong(1, "machine 1 1; nozzles 1 1 1 1 1 1; nozzles |");
        wrong(2, "machine 1 1; nozzles 1 1 1 1 1 |7 7");
        String kinds = "machine 1 1; nozzles 1" + "; kind 0".repeat(8);
        right(kinds, 0);
        wrong(3, kinds + "; |kind 5");
        wrong(3, kinds + "; |kind");
        String feeders = "machine 1 1; nozzles 1; kind 0" + "; feeder 0 1 1 1".repeat(10);
        right(feeders, 0);
        wrong(3, feeders + ";|feeder 0 1 1 1");
        wrong(3, feeders + ";|feeder 9");
        String spots = "machine 1 1; nozzles 1; kind 0" + "; spot 0 1 1".repeat(40);
        right(spots, 40);
        wrong(3, spots + ";  |spot 0 1 1");
        wrong(3, spots + ";  |spot;");
        StringBuilder pairs = new StringBuilder("machine 1 1; nozzles 1; kind 0" + "; spot 0 1 1".repeat(21));
        for (int i = 0; i < 20; i++) {
            pairs.append("; before ").append(i).append(' ').append(i + 1);
        }
        CHECK.same("count(5) of 20 pairs", right(pairs.toString(), 21).count(5), 20);
        wrong(3, pairs + "; |before 0 2");
        wrong(3, pairs + "; |before 0 1");
        wrong(3, pairs + "; |before x");
        String fewer = pairs.substring(0, pairs.lastIndexOf(";"));
        CHECK.same("count(5) of 20 with one twice", right(fewer + "; before 0 1; before 19 20", 21).count(5), 20);
    }

    private static void promise3Circles() {
        String spots = "machine 1 1; nozzles 1; kind 0" + "; spot 0 1 1".repeat(5);
        wrong(4, spots + "; before 3 |3");
        wrong(4, spots + "; before 3 4; before 4 |3");
        wrong(4, spots + "; before 3 4; before 2 3; before 1 2; before 4 |01");
        wrong(4, spots + "; before 3 4; before 2 3; before 1 2; before 4 |1; kind 9");
        right(spots + "; before 0 1; before 0 2; before 1 3; before 2 3; before 0 3", 5);
    }

    /** Each statement: numbers that are missing, that come beyond the last one, or in whose place something else stands. */
    private static void promise3Statements() {
        String before = "machine 1 1;nozzles 1;kind 0;spot 0 1 1;spot 0 1 1;";
        String[] statements = {"times 1 2 3 4", "vision 5 6 5", "camera 1 2", "seed 1", "alarm 2", "wear 1 2 3", "kind 0", "feeder 0 1 2 3",
            "spot 0 1 2", "before 0 1", "nozzles 1"};
        for (String statement : statements) {
            right(before + statement, statement.startsWith("spot") ? 3 : 2);
            right(before + statement.replaceFirst(" ", "") + " ", statement.startsWith("spot") ? 3 : 2);
            String[] parts = statement.split(" ");
            String told = before + parts[0];
            for (int i = 1; i < parts.length; i++) {
                wrong(1, told + "|");
                wrong(1, told + "  |");
                wrong(1, told + "|;kind 0");
                wrong(1, told + " |;");
                wrong(1, told + " |x");
                wrong(1, told + " |-1");
                wrong(1, told + "|\u00ff");
                told = told + " " + parts[i];
            }
            if (!parts[0].equals("nozzles")) {
                wrong(1, told + " |0");
            }
            wrong(1, told + "|kind 0");
            wrong(1, told + "  |" + parts[0]);
            wrong(1, told + ";|" + parts[0] + "s 1 1 1 1");
            wrong(1, told + ";|" + parts[0].substring(1) + " 1 1 1 1");
            wrong(1, told + ";|x" + parts[0].substring(1) + " 1 1 1 1");
            wrong(1, told + ";|" + parts[0].substring(0, parts[0].length() - 1) + " 1 1 1 1");
            wrong(1, told + ";|" + parts[0].substring(0, parts[0].length() - 1) + "x 1 1 1 1");
            wrong(1, told + ";|" + parts[0].toUpperCase() + " 1 1 1 1");
        }
    }

    /** The bytes next to letters, digits, the space and the semicolon; spaces are required between two numbers alone. */
    private static void promise3Bytes() {
        String signs = "/:`{@[!\u001f<\t\n\r,.-+_\u0080\u00a0\u00bb\u00b1\u00e1\u00ff\u0001";
        for (int i = 0; i < signs.length(); i++) {
            char sign = signs.charAt(i);
            wrong(1, "|" + sign + "machine 1 1");
            wrong(1, "machine |" + sign + "1 1");
            wrong(1, "machine 1|" + sign + "1");
            wrong(1, "machine 1 1|" + sign);
            wrong(1, "machine|" + sign + "1 1");
            wrong(1, "machine 1 1;seed|" + sign + "1");
            wrong(1, "machine 1 1;seed|" + sign);
            wrong(1, "machine 1 1;|" + sign + "seed 1");
            wrong(1, "machine 1 1;seed 1|" + sign + ";");
        }
        wrong(1, "|mach" + "ine".toUpperCase() + " 1 1");
        wrong(1, "|mach ine 1 1");
        wrong(2, "machine |11");
        wrong(1, "machine 1 1;times 1 1 11|");
        wrong(1, "machine 1 1;seed |;1");
        right("machine 1 1;seed1;alarm2", 0);
        right(" machine  1  1 ; seed 1 ;alarm 2 ", 0);
        right("machine 1 1;nozzles 1;kind0;feeder0 1 1 1;spot0 1 1;spot0 1 1;before0 1", 2);
        right("machine " + "0".repeat(800) + "4 1", 0);
        wrong(2, "machine |" + "0".repeat(800) + "5 1");
        wrong(2, "machine |" + "9".repeat(800) + " 1");
        wrong(2, "machine 1 1;seed |2147483648");
        wrong(2, "machine 1 1;seed |4294967296");
        wrong(2, "machine 1 1;seed |18446744073709551617");
        wrong(2, "machine 1 1;seed |01000000");
        right("machine 1 1;seed 0999999", 0);
        right("machine 1 1;vision 100 0 0;vision 0 100 0;vision 50 50 5", 0);
        wrong(2, "machine 1 1;vision 100 |1 0");
        wrong(2, "machine 1 1;vision 0 |101 0");
        wrong(2, "machine 1 1;vision 0 100 0;vision 60 |41 0");
    }

    /** The text ends at its length: what an earlier text had behind it is not read, and nothing is behind 900 bytes. */
    private static void promise3Length() {
        String text = "machine 2 34; times 10 20 30 40; nozzles 1 2; kind 1; feeder 0 77 88 9; spot 0 123 45; spot 0 67 8; before 0 1; seed 12";
        for (int length = 0; length <= text.length(); length++) {
            String begun = text.substring(0, length);
            PlacerHead fresh = new PlacerHead();
            Check.type(fresh, begun);
            PlacerHead used = Check.machine(text);
            Check.type(used, begun);
            CHECK.same("load() of \"" + begun + "\" behind a longer text", used.load(), fresh.load());
            CHECK.same("loadError() of \"" + begun + "\" behind a longer text", used.loadError(), fresh.loadError());
        }
        PlacerHead x = Check.machine("machine 2 34;seed 12");
        Check.type(x, "machine 2 34;see");
        CHECK.same("load() of a word that was whole before", x.load(), -113);
        Check.type(x, "machine 1 3");
        CHECK.same("load() of a number that was longer before", x.load(), 0);
        CHECK.same("setting(0)", x.setting(0), 3);
        String spaces = "machine 2 34;" + " ".repeat(880);
        wrong(1, spaces + "    |see");
        wrong(1, spaces + "   seed|");
        wrong(1, spaces + "  seed |");
        wrong(1, spaces + "seed   |");
        wrong(1, spaces + "seed 7;|");
        wrong(1, spaces + "seed 7|x");
        CHECK.same("setting(10) of 900 bytes", right(spaces + "seed 77", 0).setting(10), 77);
    }

    /** As many kinds, feeders and spots as there may be, each with numbers of its own. */
    private static void promise3Many() {
        StringBuilder text = new StringBuilder("machine 4 1;nozzles 1 2 3 4 1 2");
        for (int i = 0; i < 8; i++) {
            text.append(";kind ").append(i * 5 % 6);
        }
        for (int i = 0; i < 10; i++) {
            text.append(";feeder ").append(i * 3 % 8).append(' ').append(90 + i).append(' ').append(20 + i).append(' ').append(70 + i);
        }
        for (int i = 0; i < 40; i++) {
            text.append(";spot ").append(i * 3 % 8).append(' ').append(100 + i).append(' ').append(500 - i);
        }
        PlacerHead x = right(text.toString(), 40);
        for (int i = 0; i < 8; i++) {
            CHECK.same("nozzleFor(" + i + ") of 8", x.nozzleFor(i), i * 5 % 6);
            CHECK.same("openSpots(" + i + ") of 8", x.openSpots(i), 5);
        }
        for (int i = 0; i < 10; i++) {
            int[] due = {i * 3 % 8, 90 + i, 20 + i, 70 + i, 0, 0, 0, 0};
            for (int what = 0; what <= 7; what++) {
                CHECK.same("feederValue(" + i + ", " + what + ") of 10", x.feederValue(i, what), due[what]);
            }
        }
        for (int i = 0; i < 40; i++) {
            int[] due = {i * 3 % 8, 100 + i, 500 - i, 0, PlacerHead.NONE, PlacerHead.NONE};
            for (int what = 0; what <= 5; what++) {
                CHECK.same("spotValue(" + i + ", " + what + ") of 40", x.spotValue(i, what), due[what]);
            }
        }
    }

    /** The text is read from left to right; the first error ends it, whatever comes behind. */
    private static void promise3FirstError() {
        String some = "machine 1 1;nozzles 1 1;kind 0;spot 0 1 1;spot 0 1 1;spot 0 1 1;before 0 1";
        String[] marked = {";before 1 |0", ";before 2 |2", ";kind |2", ";spot |1 5", ";spot 0 |1000", ";seed |1000000", ";seed |x", ";|seeds",
            " |0", ";nozzles 1 1 1 1 |1 1", ";nozzles |5 x"};
        int[] errors = {4, 4, 2, 2, 2, 2, 1, 1, 1, 3, 2};
        String[] behind = {"", ";before 1 1", ";kind 9", ";", ";;", "\u00ff", " 0 0 0 0", ";machine 1 1", "x"};
        for (int i = 0; i < marked.length; i++) {
            for (String rest : behind) {
                wrong(errors[i], some + marked[i] + (marked[i].endsWith("x") || marked[i].endsWith("s") ? " " : "") + rest);
            }
        }
        String kinds = "machine 1 1;nozzles 1" + ";kind 0".repeat(8);
        wrong(2, kinds + ";seed |1000000;kind 0");
        wrong(3, kinds + ";|kind 0;seed 1000000");
        wrong(2, kinds + ";spot 0 1 1;before |1 1");
        wrong(2, kinds + ";spot 0 1 1;before 0 |1");
        wrong(4, kinds + ";spot 0 1 1;before 0 |0");
        wrong(2, "machine |0 0");
        wrong(2, "machine 1 1;feeder |0 1000 501 101");
        wrong(1, "machine 1 1;nozzles 1;kind 0;feeder 0 0 |;kind 9");
    }

    /** Without their statements the settings are those of section 1, whatever they were before. */
    private static void promise3Defaults() {
        PlacerHead x = Check.machine("machine 4 50;times 1 2 3 4;vision 10 90 5;camera 7 8;seed 99;alarm 20;wear 200 100 5");
        Check.type(x, "machine 2 7");
        x.load();
        int[] settings = {7, 30, 10, 8, 10, 90, 6, 2, 500, 0, 1, 0, 0, 0, 20};
        for (int what = 0; what < settings.length; what++) {
            CHECK.same("without it: setting(" + what + ")", x.setting(what), settings[what]);
        }
        CHECK.text("a new object", Check.state(PlacerHead::new), Check.state(() -> Check.machine("machine 1 10")));
    }

    private static final String BUSY = "machine 4 9; times 1 2 3 4; vision 60 20 2; camera 80 90; alarm 3; wear 3 20 5; seed 8; nozzles 2 2 1 1 1 4;"
        + "kind 1; kind 0; kind 5; feeder 0 10 3 20; feeder 1 20 9 20; feeder 2 30 9 0; feeder 0 40 9 0; feeder 1 0 9 9; feeder 2 0 9 9; feeder 2 900 0 0;"
        + "spot 0 1 1; spot 0 2 2; spot 1 3 3; spot 1 4 4; spot 2 5 5; spot 2 6 6; before 0 1; before 2 3";

    /** Everything has happened: spot 4 is filled, spot 5 left out, feeder 6 was spliced, and two looks count for ALARM. */
    private static PlacerHead busy() {
        PlacerHead x = Check.machine(BUSY);
        x.splice(0, 0);
        x.splice(0, 4);
        x.splice(1, 6);
        x.takeReel(1);
        for (int i = 0; i < 9; i++) {
            x.newBoard();
            x.resume();
            x.run(40);
        }
        for (int spindle = 0; spindle < 4; spindle++) {
            x.discard(spindle);
            x.changeNozzle(spindle, 5 - spindle);
        }
        x.newBoard();
        x.setMiss(5, 0);
        x.set(6, 0);
        x.set(5, 100);
        takePart(x);
        CHECK.same("look(0)", x.look(0), 1);
        CHECK.same("place(0, 4)", x.place(0, 4), 1);
        x.set(5, 0);
        for (int i = 0; i < 2; i++) {
            takePart(x);
            CHECK.same("look(0)", x.look(0), 2);
        }
        takePart(x);
        x.splice(1, 5);
        x.splice(6, 0);
        x.leaveOut(5, true);
        return x;
    }

    /** Spindle 0 takes a part of feeder 5, with a nozzle that is clean; the first pick may fail by a splice. */
    private static void takePart(PlacerHead x) {
        x.splice(5, 9);
        x.clean(0);
        for (int i = 0; i < 2 && x.spindleValue(0, 1) == PlacerHead.NONE; i++) {
            x.pick(0, 5);
        }
        CHECK.same("spindleValue(0, 1)", x.spindleValue(0, 1), 2);
    }

    /** load() begins anew: as a new object that reads the text, also behind predictions and behind a text that is wrong. */
    private static void promise3AsNew() {
        String[] texts = {"machine 1 10", BUSY, "machine 4 1", "machine 2 3; nozzles 1; kind 0; feeder 0 5 5 5; spot 0 5 5",
            "machine 3 4; nozzles 1 1; kind 1; kind 0; feeder 1 5 5 5; feeder 0 6 6 6; spot 1 5 5; spot 1 6 6; spot 0 7 7; spot 0 8 8"};
        for (String text : texts) {
            String due = Check.state(() -> Check.machine(text));
            for (int way = 0; way < 4; way++) {
                int by = way;
                CHECK.text("the state behind load(), " + way + ", of \"" + text + "\"", Check.state(() -> readAgain(text, by)), due);
                CHECK.same("append(0) behind load()", readAgain(text, by).append(0), 0);
            }
        }
        PlacerHead halted = busy();
        halted.look(0);
        CHECK.yes("isHalted()", halted.isHalted());
        CHECK.same("actionsToEnd(), halted", halted.actionsToEnd(), 0);
        Check.type(halted, BUSY);
        halted.load();
        CHECK.no("isHalted() behind load()", halted.isHalted());
    }

    private static PlacerHead readAgain(String text, int way) {
        PlacerHead x = busy();
        if (way == 1) {
            x.actionsToEnd();
        } else if (way == 2) {
            x.look(0);
            x.filledAtEnd();
        } else if (way == 3) {
            Check.type(x, BUSY + ";");
            x.load();
        }
        Check.type(x, text);
        x.load();
        return x;
    }

    /** load() begins anew: looks of before count no more for ALARM, and snapshots stay. */
    private static void promise3Counts() {
        PlacerHead x = savedAndRead();
        CHECK.same("actionsToEnd(): a change, then a pick and a look three times", x.actionsToEnd(), 7);
        CHECK.same("run(5)", x.run(5), 5);
        CHECK.no("isHalted() behind two looks", x.isHalted());
        CHECK.same("run(500)", x.run(500), 2);
        CHECK.yes("isHalted() behind three", x.isHalted());
        CHECK.same("lookRate(): good looks of before count no more", x.lookRate(), 0);
        CHECK.same("restoreSnapshot(1), nothing saved", x.restoreSnapshot(1), PlacerHead.NONE);
        CHECK.same("restoreSnapshot(0)", x.restoreSnapshot(0), busy().now());
        CHECK.text("the state behind restoreSnapshot(0)", Check.state(DescriptionTests::savedReadAndRestored), Check.state(DescriptionTests::busy));
    }

    private static PlacerHead savedAndRead() {
        PlacerHead x = busy();
        x.saveSnapshot(0);
        x.actionsToEnd();
        Check.type(x, "machine 1 10; vision 0 0 0; alarm 3; nozzles 1; kind 0; feeder 0 0 9 0; spot 0 0 0");
        x.load();
        return x;
    }

    private static PlacerHead savedReadAndRestored() {
        PlacerHead x = savedAndRead();
        x.run(500);
        x.restoreSnapshot(0);
        return x;
    }

    private static void promise3BeginsAnew() {
        String text = "machine 2 10; vision 0 0 0; alarm 1; nozzles 1; kind 0; feeder 0 100 5 0; spot 0 300 0; spot 0 400 0; before 0 1";
        PlacerHead x = Check.machine(text);
        x.run(500);
        x.newBoard();
        x.splice(0, 3);
        x.leaveOut(0, true);
        x.saveSnapshot(1);
        int then = x.now();
        CHECK.yes("isHalted() ahead of load()", x.isHalted());
        Check.type(x, text);
        CHECK.same("load()", x.load(), 2);
        CHECK.no("isHalted() behind load()", x.isHalted());
        CHECK.same("now() behind load()", x.now(), 0);
        CHECK.same("boards() behind load()", x.boards(), 1);
        CHECK.same("logSize() behind load()", x.logSize(), 0);
        CHECK.same("head(0) behind load()", x.head(0), 0);
        CHECK.same("spindleValue(0, 0) behind load()", x.spindleValue(0, 0), PlacerHead.NONE);
        CHECK.same("spindleValue(0, 5) behind load()", x.spindleValue(0, 5), 0);
        CHECK.same("spindleValue(0, 6) behind load()", x.spindleValue(0, 6), 0);
        CHECK.same("spindleValue(0, 7) behind load()", x.spindleValue(0, 7), 0);
        CHECK.same("feederValue(0, 4) behind load()", x.feederValue(0, 4), 0);
        CHECK.same("feederValue(0, 5) behind load()", x.feederValue(0, 5), 0);
        CHECK.same("ledger(0, 0) behind load()", x.ledger(0, 0), 5);
        CHECK.same("ledger(0, 4) behind load()", x.ledger(0, 4), 0);
        CHECK.same("done(3) behind load()", x.done(3), 0);
        CHECK.same("timeOf(2) behind load()", x.timeOf(2), 0);
        CHECK.same("lookRate() behind load()", x.lookRate(), PlacerHead.NONE);
        CHECK.same("openSpots(0) behind load()", x.openSpots(0), 2);
        CHECK.same("setting(10) behind load()", x.setting(10), 1);
        CHECK.same("freeNozzles(0) behind load()", x.freeNozzles(0), 1);
        CHECK.same("restoreSnapshot(1) behind load()", x.restoreSnapshot(1), then);
        Check.type(x, "machine 1 1");
        CHECK.same("load() of less", x.load(), 0);
        CHECK.same("count(0) of less", x.count(0), 1);
        CHECK.same("count(5) of less", x.count(5), 0);
        CHECK.same("setting(5) of less", x.setting(5), 90);
        CHECK.same("filledSet() of less", x.filledSet(), 0);
        CHECK.same("fillableSet() of less", x.fillableSet(), 0);
    }

    private static void promise4() {
        PlacerHead x = new PlacerHead();
        CHECK.same("loadError() at first", x.loadError(), 0);
        x.load();
        CHECK.same("loadError() of an empty text", x.loadError(), 1);
        Check.type(x, "machine 9 1");
        CHECK.same("loadError() ahead of load()", x.loadError(), 1);
        x.load();
        CHECK.same("loadError() of a wrong number", x.loadError(), 2);
        Check.type(x, "machine 1 1");
        x.load();
        CHECK.same("loadError() of a right text", x.loadError(), 0);
    }

    private static void promise5() {
        PlacerHead x = Check.machine("machine 3 1; nozzles 1 1 1 1; kind 0; kind 1; feeder 0 1 1 1; spot 0 1 1; spot 0 1 1;"
            + "spot 0 1 1; spot 0 1 1; spot 0 1 1; before 0 1; before 1 2; before 2 3; before 3 4; before 0 4; before 0 3");
        int[] counts = {3, 4, 2, 1, 5, 6};
        for (int what = 0; what < counts.length; what++) {
            CHECK.same("count(" + what + ")", x.count(what), counts[what]);
        }
        CHECK.argument("count(-1)", () -> x.count(-1));
        CHECK.argument("count(6)", () -> x.count(6));
        CHECK.argument("count(MAX)", () -> x.count(Integer.MAX_VALUE));
    }

    private static void promise6() {
        PlacerHead x = Check.machine("machine 1 11; times 21 22 23 24; vision 25 26 4; camera 27 28; seed 29; alarm 12; wear 31 32 33");
        int[] settings = {11, 21, 22, 23, 24, 25, 26, 4, 27, 28, 29, 12, 31, 32, 33};
        for (int what = 0; what < settings.length; what++) {
            CHECK.same("setting(" + what + ")", x.setting(what), settings[what]);
        }
        CHECK.argument("setting(-1)", () -> x.setting(-1));
        CHECK.argument("setting(15)", () -> x.setting(15));
        PlacerHead y = Check.machine("machine 1 50; seed 77; nozzles 1; kind 0; feeder 0 0 5 0; spot 0 0 0");
        y.changeNozzle(0, 0);
        CHECK.same("setting(10) without a draw", y.setting(10), 77);
        y.pick(0, 0);
        CHECK.same("setting(10) behind a draw", y.setting(10), (77L * 1103515245L + 12345) % 2147483648L);
        y.look(0);
        long second = (((77L * 1103515245L + 12345) % 2147483648L) * 1103515245L + 12345) % 2147483648L;
        CHECK.same("setting(10) behind two draws", y.setting(10), second);
    }

    private static void promise7() {
        PlacerHead x = Check.machine("machine 1 11; times 21 22 23 24; vision 25 26 4; alarm 12; wear 31 32 33");
        int[] settings = {11, 21, 22, 23, 24, 25, 26, 4, -1, -1, -1, 12, 31, 32, 33};
        int[] least = {1, 0, 0, 0, 0, 0, 0, 0, 0, 0, 0, 0, 0, 0, 0};
        int[] most = {50, 200, 200, 200, 200, 74, 100, 5, 0, 0, 0, 20, 200, 100, 200};
        for (int what = 0; what < settings.length; what++) {
            int number = what;
            if (settings[what] == -1) {
                CHECK.argument("set(" + what + ", 1)", () -> x.set(number, 1));
                continue;
            }
            CHECK.argument("set(" + what + ", too little)", () -> x.set(number, least[number] - 1));
            CHECK.argument("set(" + what + ", too much)", () -> x.set(number, most[number] + 1));
            CHECK.argument("set(" + what + ", MAX)", () -> x.set(number, Integer.MAX_VALUE));
            CHECK.argument("set(" + what + ", MIN)", () -> x.set(number, Integer.MIN_VALUE));
            CHECK.same("setting(" + what + ")", x.setting(what), settings[what]);
            CHECK.same("set(" + what + ", least)", x.set(what, least[what]), settings[what]);
            CHECK.same("set(" + what + ", most)", x.set(what, most[what] - (what == 6 ? 74 : 0)), least[what]);
            CHECK.same("setting(" + what + ") then", x.setting(what), most[what] - (what == 6 ? 74 : 0));
        }
        CHECK.argument("set(-1, 0)", () -> x.set(-1, 0));
        CHECK.argument("set(15, 0)", () -> x.set(15, 0));
        CHECK.argument("set(6, 27) with GOOD 74", () -> x.set(6, 27));
        CHECK.argument("set(5, 75) with AGAIN 26", () -> x.set(5, 75));
        x.set(5, 0);
        CHECK.same("set(6, 100) with GOOD 0", x.set(6, 100), 26);
        CHECK.argument("set(5, 1) with AGAIN 100", () -> x.set(5, 1));
        settingHolds();
    }

    private static void settingHolds() {
        PlacerHead x = Check.machine("machine 1 10; nozzles 1; kind 0; feeder 0 100 5 0");
        x.changeNozzle(0, 0);
        x.set(0, 20);
        x.set(2, 100);
        x.pick(0, 0);
        CHECK.same("now() with settings that were changed", x.now(), 30 + 5 + 100);
    }
}
