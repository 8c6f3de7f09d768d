import java.lang.reflect.InvocationTargetException;
import java.lang.reflect.Method;
import java.lang.reflect.Modifier;
import java.util.ArrayList;
import java.util.Comparator;
import java.util.List;

/** Long runs of calls, the same ones each time, whose answers must be those of Model. */
public final class RandomRuns {
    /** So many calls of one object are promised. */
    private static final int CALLS = 512;
    private static final List<String> DEAR = List.of("bestSwap", "dearestSpot", "bestRetries");
    private static final List<String> AHEAD = List.of("actionsToEnd", "timeAtEnd", "filledAtEnd", "runsOut", "splicesAhead", "changesAhead",
        "cleansAhead", "boardsPossible");
    private static final List<String> OFTEN = List.of("step", "run", "nextAction", "pick", "look", "place", "splice");
    private static final List<String> SELDOM = List.of("load", "append", "resume", "restoreSnapshot", "saveSnapshot");

    private final Numbers numbers;
    private final PlacerHead program = new PlacerHead();
    private final Model model = new Model();
    private final List<String> calls = new ArrayList<>();
    private int used;
    private int wrong;

    private RandomRuns(long seed) {
        numbers = new Numbers(seed);
    }

    public static void main(String[] args) throws Exception {
        int runs = args.length > 0 ? Integer.parseInt(args[0]) : 300;
        long from = args.length > 1 ? Long.parseLong(args[1]) : 1;
        List<Method> face = face();
        List<Method> oneOfEach = face.stream().distinct().toList();
        for (long seed = from; seed < from + runs; seed++) {
            RandomRuns run = new RandomRuns(seed);
            run.descriptions();
            run.go(face, oneOfEach);
            if (run.wrong > 0) {
                System.out.println("RandomRuns: seed " + seed + ", the calls up to the first wrong one:");
                run.calls.forEach(System.out::println);
                System.exit(1);
            }
        }
        System.out.println("RandomRuns: " + runs + " runs, 0 not as due");
    }

    private static List<Method> face() {
        List<Method> face = new ArrayList<>();
        for (Method method : PlacerHead.class.getDeclaredMethods()) {
            if (Modifier.isPublic(method.getModifiers())) {
                int times = DEAR.contains(method.getName()) ? 1 : AHEAD.contains(method.getName()) ? 3
                    : SELDOM.contains(method.getName()) ? 2 : OFTEN.contains(method.getName()) ? 25 : 6;
                for (int i = 0; i < times; i++) {
                    face.add(method);
                }
            }
        }
        face.sort(Comparator.comparing(Method::toString));
        return face;
    }

    /** Short texts, most of them wrong: a run has some 40 of these for the reading alone. */
    private void descriptions() throws Exception {
        Texts texts = new Texts(numbers);
        for (int i = 0; i < 60 && wrong == 0; i++) {
            PlacerHead other = new PlacerHead();
            Model otherModel = new Model();
            String text = texts.broken(texts.description(i % 3 == 0));
            type(other, otherModel, text);
            int got = other.load();
            int want = otherModel.load();
            if (got != want || other.loadError() != otherModel.loadError() || other.count(5) != otherModel.count(5)) {
                wrong++;
                calls.add("load() of \"" + text + "\" answered " + got + " by " + other.loadError() + ", due is " + want + " by "
                    + otherModel.loadError());
            }
        }
    }

    private static void type(PlacerHead program, Model model, String text) {
        for (int from = 0; from < text.length(); from += 8) {
            long bytes = 0;
            for (int i = from; i < Math.min(from + 8, text.length()); i++) {
                bytes = bytes << 8 | text.charAt(i) & 255;
            }
            program.append(bytes);
            model.append(bytes);
        }
    }

    /** Loads a description, unless there would be more calls then than there may be. */
    private void load(boolean full, int most) {
        String text = new Texts(numbers).description(full);
        int needed = (text.length() + 7) / 8 + 1;
        if (used + needed > most) {
            return;
        }
        used += needed;
        type(program, model, text);
        int got = program.load();
        int want = model.load();
        calls.add("load() of \"" + text + "\" answered " + got + ", due is " + want);
        wrong += got != want ? 1 : 0;
    }

    private void go(List<Method> face, List<Method> oneOfEach) throws Exception {
        int most = CALLS - oneOfEach.size();
        load(numbers.below(4) == 0, most);
        while (used < most && wrong == 0) {
            if (numbers.below(150) == 0) {
                load(false, most);
            } else {
                call(face.get(numbers.below(face.size())));
            }
        }
        for (int i = 0; i < oneOfEach.size() && wrong == 0; i++) {
            call(oneOfEach.get(i));
        }
    }

    private void call(Method method) throws Exception {
        used++;
        Object[] arguments = new Object[method.getParameterCount()];
        StringBuilder text = new StringBuilder(method.getName()).append('(');
        for (int i = 0; i < arguments.length; i++) {
            arguments[i] = argument(method.getName(), method.getParameterTypes()[i], i);
            text.append(i > 0 ? ", " : "").append(arguments[i]);
        }
        Object got = answer(method, program, arguments);
        Object want = answer(Model.class.getMethod(method.getName(), method.getParameterTypes()), model, arguments);
        calls.add(text.append(") answered ").append(got).append(", due is ").append(want).toString());
        wrong += got.equals(want) ? 0 : 1;
    }

    private static Object answer(Method method, Object on, Object[] arguments) throws Exception {
        try {
            return method.invoke(on, arguments);
        } catch (InvocationTargetException e) {
            return "throws." + e.getCause().getClass().getSimpleName();
        }
    }

    private Object argument(String name, Class<?> type, int index) {
        if (type == boolean.class) {
            return numbers.below(2) == 0;
        }
        if (type == long.class) {
            return numbers.below(20) == 0 ? (Object) 0x2020L : (Object) 0L;
        }
        if (numbers.below(60) == 0) {
            int[] odd = {-1, 1000, Integer.MAX_VALUE, Integer.MIN_VALUE, -2, 501, 101};
            return odd[numbers.below(odd.length)];
        }
        switch (name) {
            case "run":
                return numbers.below(5) == 0 ? numbers.below(501) : numbers.below(12);
            case "set":
                return index == 0 ? numbers.below(15) : numbers.below(4) == 0 ? numbers.below(210) : numbers.below(60);
            case "splice":
                return index == 0 ? numbers.below(model.count(3) + 1) : numbers.below(3) == 0 ? 0 : numbers.below(numbers.below(9) == 0 ? 501 : 12);
            case "shortageFor":
                return index == 0 ? numbers.below(model.count(2) + 1) : numbers.below(50) + 1;
            case "setMiss":
            case "moveFeeder":
                return index == 0 ? numbers.below(model.count(3) + 1) : numbers.below(name.equals("setMiss") ? 60 : 1000);
            default:
                return index == 0 ? numbers.below(first(name) + (numbers.below(9) == 0 ? 1 : 0)) : numbers.below(second(name) + 1);
        }
    }

    private int first(String name) {
        switch (name) {
            case "spindleValue":
            case "changeNozzle":
            case "pick":
            case "look":
            case "place":
            case "discard":
            case "clean":
                return model.count(0);
            case "freeNozzles":
                return model.count(1);
            case "nozzleFor":
            case "nearestFeeder":
            case "openSpots":
            case "ledger":
            case "shortage":
                return model.count(2);
            case "feederValue":
            case "takeReel":
            case "runsOut":
                return model.count(3);
            case "saveSnapshot":
            case "restoreSnapshot":
                return 2;
            case "logEntry":
                return 41;
            case "done":
            case "timeOf":
            case "shareOf":
                return 7;
            case "count":
                return 6;
            case "setting":
                return 15;
            case "head":
                return 2;
            default:
                return model.count(4);
        }
    }

    private int second(String name) {
        switch (name) {
            case "changeNozzle":
                return model.count(1);
            case "pick":
                return model.count(3);
            case "place":
            case "addBefore":
            case "dropBefore":
                return model.count(4);
            case "logEntry":
                return 2;
            default:
                return 8;
        }
    }

    /** Numbers that are the same ones each time. */
    private static final class Numbers {
        private long state;

        private Numbers(long seed) {
            state = seed * 0x9E3779B97F4A7C15L + 1;
        }

        private int below(int limit) {
            state = state * 6364136223846793005L + 1442695040888963407L;
            return limit <= 1 ? 0 : (int) Math.floorMod((state >>> 33) ^ (state >>> 47), (long) limit);
        }
    }

    private static final class Texts {
        private final Numbers numbers;

        private Texts(Numbers numbers) {
            this.numbers = numbers;
        }

        private int below(int limit) {
            return numbers.below(limit);
        }

        private String description(boolean full) {
            StringBuilder text = new StringBuilder("machine ").append(1 + below(4)).append(' ').append(below(2) == 0 ? 1 + below(50) : 10);
            settings(text);
            int types = 1 + below(full ? 6 : 3);
            text.append(";nozzles");
            for (int i = 0; i < types; i++) {
                text.append(' ').append(1 + below(i == 0 ? 4 : 2));
            }
            int kinds = 1 + below(full ? 8 : 3);
            for (int i = 0; i < kinds; i++) {
                text.append(";kind ").append(below(types));
            }
            int feeders = full ? 6 + below(6) : below(6);
            for (int i = 0; i < feeders; i++) {
                text.append(";feeder ").append(below(kinds)).append(' ').append(below(1000)).append(' ');
                text.append(below(5) == 0 ? below(501) : below(12)).append(' ').append(below(3) == 0 ? below(101) : below(20));
            }
            int spots = full ? 20 + below(22) : below(12);
            for (int i = 0; i < spots; i++) {
                text.append(";spot ").append(below(kinds)).append(' ').append(below(300)).append(' ').append(below(200));
            }
            int pairs = spots < 2 ? 0 : below(full ? 22 : 6);
            for (int i = 0; i < pairs; i++) {
                int second = 1 + below(spots - 1);
                text.append(";before ").append(below(second)).append(' ').append(below(60) == 0 ? below(spots) : second);
            }
            return text.length() > 900 ? description(false) : text.toString();
        }

        private void settings(StringBuilder text) {
            if (below(2) == 0) {
                text.append(";times ").append(below(40)).append(' ').append(below(30)).append(' ').append(below(30)).append(' ').append(below(30));
            }
            if (below(4) != 0) {
                int good = below(5) == 0 ? below(4) : below(3) == 0 ? below(101) : 60 + below(41);
                text.append(";vision ").append(good).append(' ').append(below(101 - good)).append(' ').append(below(6));
            }
            if (below(2) == 0) {
                text.append("; camera ").append(below(600)).append(' ').append(below(100));
            }
            if (below(5) != 0) {
                text.append(" ;seed ").append(below(1000000));
            }
            if (below(3) == 0) {
                text.append("; alarm ").append(below(21));
            }
            if (below(2) == 0) {
                text.append("; wear ").append(below(9)).append(' ').append(below(60)).append(' ').append(below(40));
            }
        }

        /** Changes a few bytes, or mixes the statements up, or leaves the text as it is. */
        private String broken(String text) {
            StringBuilder changed = new StringBuilder(text);
            int changes = below(4);
            for (int i = 0; i < changes && changed.length() > 0; i++) {
                int at = below(changed.length());
                String some = ";  09315azkn\u00ff-A\t";
                switch (below(4)) {
                    case 0:
                        changed.deleteCharAt(at);
                        break;
                    case 1:
                        changed.insert(at, some.charAt(below(some.length())));
                        break;
                    case 2:
                        changed.setCharAt(at, some.charAt(below(some.length())));
                        break;
                    default:
                        swap(changed);
                        break;
                }
            }
            return changed.toString();
        }

        private void swap(StringBuilder text) {
            String[] statements = text.toString().split(";", -1);
            int one = below(statements.length);
            int other = below(statements.length);
            String kept = statements[one];
            statements[one] = statements[other];
            statements[other] = below(2) == 0 ? kept : kept + " " + below(300);
            text.setLength(0);
            text.append(String.join(";", statements));
        }
    }
}
