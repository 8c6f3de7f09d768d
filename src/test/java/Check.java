import java.util.ArrayList;
import java.util.List;
import java.util.function.BiFunction;
import java.util.function.Function;
import java.util.function.Supplier;

/** What the tests share: it counts the answers that are not as due, and makes machines from descriptions. */
final class Check {
    private static final int ASKED_OF_ONE = 150;

    private final String name;
    private int asked;
    private int wrong;

    Check(String name) {
        this.name = name;
    }

    void same(String call, long got, long want) {
        asked++;
        if (got != want) {
            wrong++;
            System.out.println(name + ": " + call + " answered " + got + ", due is " + want);
        }
    }

    void yes(String call, boolean got) {
        same(call, got ? 1 : 0, 1);
    }

    void no(String call, boolean got) {
        same(call, got ? 1 : 0, 0);
    }

    void text(String call, String got, String want) {
        asked++;
        if (!got.equals(want)) {
            wrong++;
            System.out.println(name + ": " + call + " answered\n  " + got + "\ndue is\n  " + want);
        }
    }

    void index(String call, Runnable run) {
        throwsJust(call, run, IndexOutOfBoundsException.class);
    }

    void argument(String call, Runnable run) {
        throwsJust(call, run, IllegalArgumentException.class);
    }

    private void throwsJust(String call, Runnable run, Class<?> due) {
        asked++;
        String got = "nothing";
        try {
            run.run();
        } catch (RuntimeException e) {
            if (e.getClass() == due) {
                return;
            }
            got = e.getClass().getName();
        }
        wrong++;
        System.out.println(name + ": " + call + " threw " + got + ", due is " + due.getName());
    }

    void end() {
        System.out.println(name + ": " + asked + " answers, " + wrong + " not as due");
        if (wrong != 0) {
            System.exit(1);
        }
    }

    /** Appends a text; returns the last answer of append. */
    static int type(PlacerHead machine, String text) {
        int answer = machine.append(0);
        for (int from = 0; from < text.length(); from += 8) {
            long bytes = 0;
            for (int i = from; i < Math.min(from + 8, text.length()); i++) {
                bytes = bytes << 8 | text.charAt(i) & 255;
            }
            answer = machine.append(bytes);
        }
        return answer;
    }

    /** Returns a machine that has read a description, which must be right. */
    static PlacerHead machine(String text) {
        PlacerHead machine = new PlacerHead();
        type(machine, text);
        int answer = machine.load();
        if (answer < 0) {
            throw new IllegalStateException("the test's own description is wrong: " + answer + " for " + text);
        }
        return machine;
    }

    /** Returns the numbers that are drawn, one behind the other, from a seed on (section 2). */
    static int[] draws(long seed, int many) {
        int[] drawn = new int[many];
        long g = seed;
        for (int i = 0; i < many; i++) {
            g = (g * 1103515245L + 12345L) % 2147483648L;
            drawn[i] = (int) (g / 65536 % 100);
        }
        return drawn;
    }

    /** Returns a seed from which on the first draws lie in given ranges: least, most, least, most .. */
    static int seedFor(int... ranges) {
        for (int seed = 0; seed <= 999999; seed++) {
            int[] drawn = draws(seed, ranges.length / 2);
            boolean fits = true;
            for (int i = 0; i < drawn.length; i++) {
                fits &= drawn[i] >= ranges[2 * i] && drawn[i] <= ranges[2 * i + 1];
            }
            if (fits) {
                return seed;
            }
        }
        throw new IllegalStateException("no such seed");
    }

    /**
     * Everything that can be asked without changing anything, of a machine as it is behind some calls. That may be more
     * than the 512 calls of one object: the machine is made anew for each ASKED_OF_ONE questions.
     */
    static String state(Supplier<PlacerHead> behind) {
        List<Function<PlacerHead, Object>> questions = questions(behind.get());
        StringBuilder all = new StringBuilder();
        PlacerHead x = null;
        for (int i = 0; i < questions.size(); i++) {
            if (i % ASKED_OF_ONE == 0) {
                x = behind.get();
            }
            all.append(questions.get(i).apply(x)).append(' ');
        }
        return all.toString();
    }

    private static List<Function<PlacerHead, Object>> questions(PlacerHead ofOne) {
        List<Function<PlacerHead, Object>> questions = new ArrayList<>();
        each(questions, 15, PlacerHead::setting);
        each(questions, 6, PlacerHead::count);
        each(questions, ofOne.count(0), 8, PlacerHead::spindleValue);
        each(questions, ofOne.count(1), PlacerHead::freeNozzles);
        each(questions, ofOne.count(2), PlacerHead::nozzleFor);
        each(questions, ofOne.count(2), PlacerHead::openSpots);
        each(questions, ofOne.count(2), PlacerHead::nearestFeeder);
        each(questions, ofOne.count(2), 7, PlacerHead::ledger);
        each(questions, ofOne.count(3), 8, PlacerHead::feederValue);
        each(questions, ofOne.count(4), 6, PlacerHead::spotValue);
        each(questions, ofOne.count(4), PlacerHead::blockedBy);
        each(questions, ofOne.count(4), PlacerHead::chain);
        each(questions, 6, (x, action) -> x.done(action + 1));
        each(questions, 6, (x, action) -> x.timeOf(action + 1));
        each(questions, 40, 3, PlacerHead::logEntry);
        each(questions, 2, PlacerHead::head);
        questions.addAll(List.of(PlacerHead::logSize, PlacerHead::now, PlacerHead::boards, PlacerHead::isHalted, PlacerHead::lookRate));
        questions.addAll(List.of(PlacerHead::nextAction, PlacerHead::filledSet, PlacerHead::fillableSet, PlacerHead::isBalanced));
        questions.addAll(List.of(PlacerHead::actionsToEnd, PlacerHead::splicesAhead));
        return questions;
    }

    private static void each(List<Function<PlacerHead, Object>> questions, int size, BiFunction<PlacerHead, Integer, Object> question) {
        for (int i = 0; i < size; i++) {
            int index = i;
            questions.add(x -> question.apply(x, index));
        }
    }

    private static void each(List<Function<PlacerHead, Object>> questions, int size, int whats, Question question) {
        for (int i = 0; i < size; i++) {
            int index = i;
            each(questions, whats, (x, what) -> question.answer(x, index, what));
        }
    }

    private interface Question {
        int answer(PlacerHead x, int index, int what);
    }
}
