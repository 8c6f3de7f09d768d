/** What the tests share: it counts the answers that are not as due, and makes machines from descriptions. */
final class Check {
    private final String name;
    private int asked;
    private int wrong;

    Check(String name) {
        this.name = name;
    }

    void same(String call, long got, long want) {
        asked++;
        if (got != want) {
            wrong++;
            System.out.println(name + ": " + call + " answered " + got + ", due is " + want);
        }
    }

    void yes(String call, boolean got) {
        same(call, got ? 1 : 0, 1);
    }

    void no(String call, boolean got) {
        same(call, got ? 1 : 0, 0);
    }

    void index(String call, Runnable run) {
        throwsJust(call, run, IndexOutOfBoundsException.class);
    }

    void argument(String call, Runnable run) {
        throwsJust(call, run, IllegalArgumentException.class);
    }

    private void throwsJust(String call, Runnable run, Class<?> due) {
        asked++;
        String got = "nothing";
        try {
            run.run();
        } catch (RuntimeException e) {
            if (e.getClass() == due) {
                return;
            }
            got = e.getClass().getName();
        }
        wrong++;
        System.out.println(name + ": " + call + " threw " + got + ", due is " + due.getName());
    }

    void end() {
        System.out.println(name + ": " + asked + " answers, " + wrong + " not as due");
        if (wrong != 0) {
            System.exit(1);
        }
    }

    /** Appends a text; returns the last answer of append. */
    static int type(PlacerHead machine, String text) {
        int answer = machine.append(0);
        for (int from = 0; from < text.length(); from += 8) {
            long bytes = 0;
            for (int i = from; i < Math.min(from + 8, text.length()); i++) {
                bytes = bytes << 8 | text.charAt(i) & 255;
            }
            answer = machine.append(bytes);
        }
        return answer;
    }

    /** Returns a machine that has read a description, which must be right. */
    static PlacerHead machine(String text) {
        PlacerHead machine = new PlacerHead();
        type(machine, text);
        int answer = machine.load();
        if (answer < 0) {
            throw new IllegalStateException("the test's own description is wrong: " + answer + " for " + text);
        }
        return machine;
    }

    /** Returns the numbers that are drawn, one behind the other, from a seed on (section 2). */
    static int[] draws(long seed, int many) {
        int[] drawn = new int[many];
        long g = seed;
        for (int i = 0; i < many; i++) {
            g = (g * 1103515245L + 12345L) % 2147483648L;
            drawn[i] = (int) (g / 65536 % 100);
        }
        return drawn;
    }

    /** Returns a seed from which on the first draws lie in given ranges: least, most, least, most .. */
    static int seedFor(int... ranges) {
        for (int seed = 0; seed <= 999999; seed++) {
            int[] drawn = draws(seed, ranges.length / 2);
            boolean fits = true;
            for (int i = 0; i < drawn.length; i++) {
                fits &= drawn[i] >= ranges[2 * i] && drawn[i] <= ranges[2 * i + 1];
            }
            if (fits) {
                return seed;
            }
        }
        throw new IllegalStateException("no such seed");
    }
}
