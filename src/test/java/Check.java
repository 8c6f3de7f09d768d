/** What the tests share: it counts the answers that are not as due, and makes machines from descriptions. */
final class Check {
    private final String name;
    private int asked;
    private int wrong;

    Check(String name) {
        this.name = name;
    }

    void same(String call, long got, long want) {
        asked++;
        if (got != want) {
            wrong++;
            System.out.println(name + ": " + call + " answered " + got + ", due is " + want);
        }
    }

    void yes(String call, boolean got) {
        same(call, got ? 1 : 0, 1);
    }

    void no(String call, boolean got) {
        same(call, got ? 1 : 0, 0);
    }

    void text(String call, String got, String want) {
        asked++;
        if (!got.equals(want)) {
            wrong++;
            System.out.println(name + ": " + call + " answered\n  " + got + "\ndue is\n  " + want);
        }
    }

    void index(String call, Runnable run) {
        throwsJust(call, run, IndexOutOfBoundsException.class);
    }

    void argument(String call, Runnable run) {
        throwsJust(call, run, IllegalArgumentException.class);
    }

    private void throwsJust(String call, Runnable run, Class<?> due) {
        asked++;
        String got = "nothing";
        try {
            run.run();
        } catch (RuntimeException e) {
            if (e.getClass() == due) {
                return;
            }
            got = e.getClass().getName();
        }
        wrong++;
        System.out.println(name + ": " + call + " threw " + got + ", due is " + due.getName());
    }

    void end() {
        System.out.println(name + ": " + asked + " answers, " + wrong + " not as due");
        if (wrong != 0) {
            System.exit(1);
        }
    }

    /** Appends a text; returns the last answer of append. */
    static int type(PlacerHead machine, String text) {
        int answer = machine.append(0);
        for (int from = 0; from < text.length(); from += 8) {
            long bytes = 0;
            for (int i = from; i < Math.min(from + 8, text.length()); i++) {
                bytes = bytes << 8 | text.charAt(i) & 255;
            }
            answer = machine.append(bytes);
        }
        return answer;
    }

    /** Returns a machine that has read a description, which must be right. */
    static PlacerHead machine(String text) {
        PlacerHead machine = new PlacerHead();
        type(machine, text);
        int answer = machine.load();
        if (answer < 0) {
            throw new IllegalStateException("the test's own description is wrong: " + answer + " for " + text);
        }
        return machine;
    }

    /** Returns the numbers that are drawn, one behind the other, from a seed on (section 2). */
    static int[] draws(long seed, int many) {
        int[] drawn = new int[many];
        long g = seed;
        for (int i = 0; i < many; i++) {
            g = (g * 1103515245L + 12345L) % 2147483648L;
            drawn[i] = (int) (g / 65536 % 100);
        }
        return drawn;
    }

    /** Returns a seed from which on the first draws lie in given ranges: least, most, least, most .. */
    static int seedFor(int... ranges) {
        for (int seed = 0; seed <= 999999; seed++) {
            int[] drawn = draws(seed, ranges.length / 2);
            boolean fits = true;
            for (int i = 0; i < drawn.length; i++) {
                fits &= drawn[i] >= ranges[2 * i] && drawn[i] <= ranges[2 * i + 1];
            }
            if (fits) {
                return seed;
            }
        }
        throw new IllegalStateException("no such seed");
    }

    /**
     * Everything that can be asked without changing anything. These are more calls than an object is promised to be used
     * for; the program counts none, so that they may be asked all the same.
     */
    static String state(PlacerHead x) {
        StringBuilder all = new StringBuilder();
        for (int what = 0; what <= 14; what++) {
            all.append(x.setting(what)).append(' ');
        }
        for (int what = 0; what <= 5; what++) {
            all.append(x.count(what)).append(' ');
        }
        for (int what = 0; what <= 7; what++) {
            for (int i = 0; i < x.count(0); i++) {
                all.append(x.spindleValue(i, what)).append(' ');
            }
            for (int i = 0; i < x.count(3); i++) {
                all.append(x.feederValue(i, what)).append(' ');
            }
        }
        for (int i = 0; i < x.count(1); i++) {
            all.append(x.freeNozzles(i)).append(' ');
        }
        for (int i = 0; i < x.count(2); i++) {
            all.append(x.nozzleFor(i)).append(' ').append(x.openSpots(i)).append(' ').append(x.nearestFeeder(i)).append(' ');
            for (int what = 0; what <= 6; what++) {
                all.append(x.ledger(i, what)).append(' ');
            }
        }
        for (int i = 0; i < x.count(4); i++) {
            for (int what = 0; what <= 5; what++) {
                all.append(x.spotValue(i, what)).append(' ');
            }
            all.append(x.blockedBy(i)).append(' ').append(x.chain(i)).append(' ');
        }
        for (int action = 1; action <= 6; action++) {
            all.append(x.done(action)).append(' ').append(x.timeOf(action)).append(' ');
        }
        for (int i = 0; i < 40; i++) {
            all.append(x.logEntry(i, 0)).append(' ').append(x.logEntry(i, 1)).append(' ').append(x.logEntry(i, 2)).append(' ');
        }
        all.append(x.logSize()).append(' ').append(x.now()).append(' ').append(x.head(0)).append(' ').append(x.head(1)).append(' ');
        all.append(x.boards()).append(' ').append(x.isHalted()).append(' ').append(x.lookRate()).append(' ').append(x.nextAction());
        all.append(' ').append(x.filledSet()).append(' ').append(x.fillableSet()).append(' ').append(x.isBalanced());
        return all.append(' ').append(x.actionsToEnd()).append(' ').append(x.splicesAhead()).toString();
    }
}
