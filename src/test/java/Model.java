import java.util.ArrayList;
import java.util.Arrays;
import java.util.HashMap;
import java.util.List;
import java.util.Map;
import java.util.regex.Matcher;
import java.util.regex.Pattern;

/** The document in another manner: slow, with lists and copies of the whole. RandomRuns compares the program with it. */
public final class Model {
    private static final int NONE = -1;

    private static final class Part {
        int kind;
        boolean ready;
        int looks;
    }

    private static final class Head {
        int type = NONE;
        Part part;
        int placed;
        int changes;
        int rejected;
        int wear;
    }

    private static final class Source {
        int kind;
        int x;
        int miss;
        List<Integer> reels = new ArrayList<>();
        boolean spliced;
        int taken;
        int lost;
        int gone;
        int came;
    }

    private static final class Place {
        int kind;
        int x;
        int y;
        int state;
        int when = NONE;
        int who = NONE;
    }

    private static final class World {
        Map<String, Integer> set = new HashMap<>();
        List<Head> heads = new ArrayList<>();
        List<Integer> told = new ArrayList<>();
        List<Integer> kinds = new ArrayList<>();
        List<Source> sources = new ArrayList<>();
        List<Place> places = new ArrayList<>();
        List<List<Integer>> pairs = new ArrayList<>();
        long seed = 1;
        int x;
        int y;
        int time;
        int boards = 1;
        int bad;
        boolean halted;
        int splices;
        int[] placed = new int[8];
        int[] rejected = new int[8];
        List<int[]> log = new ArrayList<>();

        World() {
            String[] names = {"SPEED", "CHANGE", "PICK", "VISION", "PLACE", "GOOD", "AGAIN", "RETRIES", "X", "Y", "SEED", "ALARM",
                "LIMIT", "LOSS", "CLEAN"};
            int[] values = {10, 30, 10, 8, 10, 90, 6, 2, 500, 0, 1, 0, 0, 0, 20};
            for (int i = 0; i < names.length; i++) {
                set.put(names[i], values[i]);
            }
        }

        World copy() {
            World w = new World();
            w.set.putAll(set);
            for (Head h : heads) {
                Head n = new Head();
                n.type = h.type;
                if (h.part != null) {
                    n.part = new Part();
                    n.part.kind = h.part.kind;
                    n.part.ready = h.part.ready;
                    n.part.looks = h.part.looks;
                }
                n.placed = h.placed;
                n.changes = h.changes;
                n.rejected = h.rejected;
                n.wear = h.wear;
                w.heads.add(n);
            }
            w.told.addAll(told);
            w.kinds.addAll(kinds);
            for (Source s : sources) {
                Source n = new Source();
                n.kind = s.kind;
                n.x = s.x;
                n.miss = s.miss;
                n.reels.addAll(s.reels);
                n.spliced = s.spliced;
                n.taken = s.taken;
                n.lost = s.lost;
                n.gone = s.gone;
                n.came = s.came;
                w.sources.add(n);
            }
            for (Place p : places) {
                Place n = new Place();
                n.kind = p.kind;
                n.x = p.x;
                n.y = p.y;
                n.state = p.state;
                n.when = p.when;
                n.who = p.who;
                w.places.add(n);
            }
            w.pairs.addAll(pairs);
            w.seed = seed;
            w.x = x;
            w.y = y;
            w.time = time;
            w.boards = boards;
            w.bad = bad;
            w.halted = halted;
            w.splices = splices;
            w.placed = placed.clone();
            w.rejected = rejected.clone();
            w.log.addAll(log);
            return w;
        }

        int get(String name) {
            return set.get(name);
        }

        int free(int type) {
            int free = told.get(type);
            for (Head h : heads) {
                free -= h.type == type ? 1 : 0;
            }
            return free;
        }

        boolean isBlocked(int spot) {
            for (List<Integer> pair : pairs) {
                if (pair.get(1) == spot && places.get(pair.get(0)).state == 0) {
                    return true;
                }
            }
            return false;
        }

        List<Integer> fillable(int kind) {
            List<Integer> all = new ArrayList<>();
            for (int i = 0; i < places.size(); i++) {
                if (places.get(i).kind == kind && places.get(i).state == 0 && !isBlocked(i)) {
                    all.add(i);
                }
            }
            return all;
        }

        int held(int kind) {
            int held = 0;
            for (Head h : heads) {
                held += h.part != null && h.part.kind == kind ? 1 : 0;
            }
            return held;
        }

        int inReels(int kind) {
            int sum = 0;
            for (Source s : sources) {
                if (s.kind == kind) {
                    for (int parts : s.reels) {
                        sum += parts;
                    }
                }
            }
            return sum;
        }

        boolean comesBefore(int first, int second) {
            for (List<Integer> pair : pairs) {
                if (pair.get(0) == first && (pair.get(1) == second || comesBefore(pair.get(1), second))) {
                    return true;
                }
            }
            return false;
        }

        int chain(int spot) {
            int longest = 0;
            for (List<Integer> pair : pairs) {
                if (pair.get(1) == spot) {
                    longest = Math.max(longest, 1 + chain(pair.get(0)));
                }
            }
            return longest;
        }

        int nearest(int kind) {
            int best = NONE;
            for (int i = sources.size() - 1; i >= 0; i--) {
                Source s = sources.get(i);
                if (s.kind == kind && s.reels.get(0) > 0
                    && (best == NONE || Math.abs(s.x - x) <= Math.abs(sources.get(best).x - x))) {
                    best = i;
                }
            }
            return best;
        }

        int way(int toX, int toY) {
            double greater = Math.max(Math.abs(toX - x), Math.abs(toY - y));
            return (int) Math.ceil(greater / get("SPEED"));
        }

        void go(int toX, int toY, String own) {
            time += way(toX, toY) + get(own);
            x = toX;
            y = toY;
        }

        int draw() {
            seed = (seed * 1103515245L + 12345L) % (1L << 31);
            return (int) (seed / 65536 % 100);
        }

        boolean isWorn(Head h) {
            return get("LIMIT") > 0 && h.wear >= get("LIMIT");
        }

        void settle(Source s) {
            while (s.reels.get(0) == 0 && s.reels.size() > 1) {
                s.reels.remove(0);
                s.spliced = true;
                splices++;
            }
        }

        int act(int action, int spindle, int other) {
            int began = time;
            int result = effect(action, heads.get(spindle), spindle, other);
            log.add(new int[] {10000 * action + 100 * spindle + other, result, time, time - began});
            return result;
        }

        int effect(int action, Head h, int spindle, int other) {
            if (action == 1) {
                go(0, 0, "CHANGE");
                h.type = other;
                h.wear = 0;
                h.changes++;
            } else if (action == 2) {
                return doPick(h, sources.get(other));
            } else if (action == 3) {
                return doLook(h);
            } else if (action == 4) {
                Place p = places.get(other);
                go(p.x, p.y, "PLACE");
                p.state = 1;
                p.when = time;
                p.who = spindle;
                placed[h.part.kind]++;
                h.placed++;
                h.part = null;
            } else if (action == 5) {
                bin(h);
            } else {
                go(0, 0, "CLEAN");
                h.wear = 0;
            }
            return 1;
        }

        void bin(Head h) {
            rejected[h.part.kind]++;
            h.rejected++;
            h.part = null;
        }

        int doPick(Head h, Source s) {
            go(s.x, 0, "PICK");
            if (s.spliced) {
                s.spliced = false;
                return 0;
            }
            int limit = s.miss + (isWorn(h) ? get("LOSS") : 0);
            int drawn = draw();
            h.wear++;
            s.reels.set(0, s.reels.get(0) - 1);
            settle(s);
            if (drawn < limit) {
                s.lost++;
                return 0;
            }
            s.taken++;
            h.part = new Part();
            h.part.kind = s.kind;
            return 1;
        }

        int doLook(Head h) {
            go(get("X"), get("Y"), "VISION");
            int drawn = draw();
            h.part.looks++;
            if (drawn < get("GOOD")) {
                h.part.ready = true;
                bad = 0;
                return 1;
            }
            if (drawn < get("GOOD") + get("AGAIN") && h.part.looks <= get("RETRIES")) {
                return 0;
            }
            bin(h);
            bad++;
            halted = halted || get("ALARM") > 0 && bad >= get("ALARM");
            return 2;
        }

        /** The next action as {action, spindle, other}, or null. */
        int[] plan() {
            if (halted) {
                return null;
            }
            List<Integer> good = new ArrayList<>();
            for (int kind = 0; kind < kinds.size(); kind++) {
                if (fillable(kind).size() > held(kind) && nearest(kind) != NONE) {
                    good.add(kind);
                }
            }
            for (int i = 0; i < heads.size(); i++) {
                Head h = heads.get(i);
                if (h.part != null) {
                    continue;
                }
                for (int kind : good) {
                    if (kinds.get(kind) == h.type) {
                        return isWorn(h) ? new int[] {6, i, 0} : new int[] {2, i, nearest(kind)};
                    }
                }
                for (int kind : good) {
                    if (free(kinds.get(kind)) > 0) {
                        return new int[] {1, i, kinds.get(kind)};
                    }
                }
            }
            for (int i = 0; i < heads.size(); i++) {
                if (heads.get(i).part != null && !heads.get(i).part.ready) {
                    return new int[] {3, i, 0};
                }
            }
            for (int i = 0; i < heads.size(); i++) {
                if (heads.get(i).part != null) {
                    int best = NONE;
                    for (int spot : fillable(heads.get(i).part.kind)) {
                        if (best == NONE || way(places.get(spot).x, places.get(spot).y) < way(places.get(best).x, places.get(best).y)) {
                            best = spot;
                        }
                    }
                    return best == NONE ? new int[] {5, i, 0} : new int[] {4, i, best};
                }
            }
            return null;
        }

        int filled() {
            int filled = 0;
            for (Place p : places) {
                filled += p.state == 1 ? 1 : 0;
            }
            return filled;
        }

        int doneOf(int action) {
            int done = 0;
            for (int[] entry : log) {
                done += entry[0] / 10000 == action ? 1 : 0;
            }
            return done;
        }

        /** Goes on by the plan, at most 1000 actions; returns whether it has ended. */
        boolean toEnd() {
            for (int i = 0; i < 1000; i++) {
                int[] next = plan();
                if (next == null) {
                    return true;
                }
                act(next[0], next[1], next[2]);
            }
            return plan() == null;
        }
    }

    private StringBuilder buffer = new StringBuilder();
    private int error;
    private World w;
    private final World[] saved = new World[2];

    public Model() {
        w = new World();
        w.heads.add(new Head());
    }

    public int append(long bytes) {
        StringBuilder more = new StringBuilder();
        for (int i = 7; i >= 0; i--) {
            int one = (int) (bytes >> 8 * i & 255);
            if (one != 0) {
                more.append((char) one);
            }
        }
        if (buffer.length() + more.length() > 900) {
            return -2;
        }
        return buffer.append(more).length();
    }

    public int load() {
        String text = buffer.toString();
        buffer = new StringBuilder();
        World read = new World();
        int[] wrong = new ModelText(text).read(read);
        if (wrong != null) {
            error = wrong[0];
            return -100 - wrong[1];
        }
        error = 0;
        w = read;
        return w.places.size();
    }

    public int loadError() {
        return error;
    }

    /** The description as a list of signs, each with its position, and patterns of numbers for each statement. */
    private static final class ModelText {
        private static final Pattern SIGN = Pattern.compile(" *(?:([a-z]+)|([0-9]+)|(;)|([^ a-z0-9;]))", Pattern.DOTALL);
        private final List<String> signs = new ArrayList<>();
        private final List<Integer> positions = new ArrayList<>();
        private int at;

        ModelText(String text) {
            Matcher matcher = SIGN.matcher(text);
            int from = 0;
            while (matcher.find(from) && matcher.start() == from) {
                for (int group = 1; group <= 4; group++) {
                    if (matcher.group(group) != null) {
                        signs.add(matcher.group(group));
                        positions.add(matcher.start(group));
                    }
                }
                from = matcher.end();
            }
            signs.add("");
            positions.add(text.length());
        }

        private int[] wrong(int error, int sign) {
            return new int[] {error, positions.get(sign)};
        }

        private boolean isNumber(int sign) {
            return signs.get(sign).matches("[0-9]+");
        }

        private int number(int sign) {
            String digits = signs.get(sign).replaceFirst("^0+(?=.)", "");
            return digits.length() > 8 ? 99999999 : Integer.parseInt(digits);
        }

        int[] read(World w) {
            for (boolean first = true;; first = false) {
                int[] wrong = statement(w, first);
                if (wrong != null) {
                    return wrong;
                }
                if (signs.get(at).isEmpty()) {
                    return null;
                }
                if (!signs.get(at).equals(";")) {
                    return wrong(1, at);
                }
                at++;
            }
        }

        private int[] statement(World w, boolean first) {
            int word = at;
            String name = signs.get(word);
            if (first != name.equals("machine")) {
                return wrong(1, word);
            }
            at++;
            switch (name) {
                case "machine":
                    return settings(w, new String[] {"", "SPEED"}, 1, 4, 1, 50);
                case "times":
                    return settings(w, new String[] {"CHANGE", "PICK", "VISION", "PLACE"}, 0, 200, 0, 200, 0, 200, 0, 200);
                case "vision":
                    return settings(w, new String[] {"GOOD", "AGAIN", "RETRIES"}, 0, 100, 0, -1, 0, 5);
                case "camera":
                    return settings(w, new String[] {"X", "Y"}, 0, 999, 0, 999);
                case "seed":
                    return settings(w, new String[] {"SEED"}, 0, 999999);
                case "alarm":
                    return settings(w, new String[] {"ALARM"}, 0, 20);
                case "wear":
                    return settings(w, new String[] {"LIMIT", "LOSS", "CLEAN"}, 0, 200, 0, 100, 0, 200);
                case "nozzles":
                    return nozzles(w);
                case "kind":
                    return w.kinds.size() == 8 ? wrong(3, word) : kind(w);
                case "feeder":
                    return w.sources.size() == 10 ? wrong(3, word) : feeder(w);
                case "spot":
                    return w.places.size() == 40 ? wrong(3, word) : spot(w);
                case "before":
                    return w.pairs.size() == 20 ? wrong(3, word) : before(w);
                default:
                    return wrong(1, word);
            }
        }

        private int[] settings(World w, String[] names, int... ranges) {
            for (int i = 0; i < names.length; i++) {
                int most = ranges[2 * i + 1] == -1 ? 100 - w.get("GOOD") : ranges[2 * i + 1];
                int[] wrong = range(ranges[2 * i], most);
                if (wrong != null) {
                    return wrong;
                }
                int value = number(at - 1);
                if (names[i].isEmpty()) {
                    for (int k = 0; k < value; k++) {
                        w.heads.add(new Head());
                    }
                } else if (names[i].equals("SEED")) {
                    w.seed = value;
                } else {
                    w.set.put(names[i], value);
                }
            }
            return null;
        }

        /** Goes behind a number in a range. */
        private int[] range(int least, int most) {
            if (!isNumber(at)) {
                return wrong(1, at);
            }
            if (number(at) < least || number(at) > most) {
                return wrong(2, at);
            }
            at++;
            return null;
        }

        private int[] nozzles(World w) {
            do {
                if (isNumber(at) && w.told.size() == 6) {
                    return wrong(3, at);
                }
                int[] wrong = range(1, 4);
                if (wrong != null) {
                    return wrong;
                }
                w.told.add(number(at - 1));
            } while (isNumber(at));
            return null;
        }

        private int[] ranges(int... ranges) {
            for (int i = 0; i < ranges.length; i += 2) {
                int[] wrong = range(ranges[i], ranges[i + 1]);
                if (wrong != null) {
                    return wrong;
                }
            }
            return null;
        }

        private int[] kind(World w) {
            int[] wrong = ranges(0, w.told.size() - 1);
            if (wrong == null) {
                w.kinds.add(number(at - 1));
            }
            return wrong;
        }

        private int[] feeder(World w) {
            int[] wrong = ranges(0, w.kinds.size() - 1, 0, 999, 0, 500, 0, 100);
            if (wrong == null) {
                Source s = new Source();
                s.kind = number(at - 4);
                s.x = number(at - 3);
                s.reels.add(number(at - 2));
                s.came = number(at - 2);
                s.miss = number(at - 1);
                w.sources.add(s);
            }
            return wrong;
        }

        private int[] spot(World w) {
            int[] wrong = ranges(0, w.kinds.size() - 1, 0, 999, 0, 999);
            if (wrong == null) {
                Place p = new Place();
                p.kind = number(at - 3);
                p.x = number(at - 2);
                p.y = number(at - 1);
                w.places.add(p);
            }
            return wrong;
        }

        private int[] before(World w) {
            int[] wrong = ranges(0, w.places.size() - 1, 0, w.places.size() - 1);
            if (wrong == null) {
                int first = number(at - 2);
                int second = number(at - 1);
                if (first == second || w.comesBefore(second, first)) {
                    return wrong(4, at - 1);
                }
                if (!w.pairs.contains(Arrays.asList(first, second))) {
                    w.pairs.add(Arrays.asList(first, second));
                }
            }
            return wrong;
        }
    }

    private static void index(int i, int size) {
        if (i < 0 || i >= size) {
            throw new IndexOutOfBoundsException();
        }
    }

    private static void argument(boolean right) {
        if (!right) {
            throw new IllegalArgumentException();
        }
    }

    public int count(int what) {
        argument(what >= 0 && what <= 5);
        return new int[] {w.heads.size(), w.told.size(), w.kinds.size(), w.sources.size(), w.places.size(), w.pairs.size()}[what];
    }

    private static final String[] NAMES = {"SPEED", "CHANGE", "PICK", "VISION", "PLACE", "GOOD", "AGAIN", "RETRIES", "X", "Y", "SEED",
        "ALARM", "LIMIT", "LOSS", "CLEAN"};

    public int setting(int what) {
        argument(what >= 0 && what <= 14);
        return what == 10 ? (int) w.seed : w.get(NAMES[what]);
    }

    public int set(int what, int value) {
        argument(what >= 0 && what <= 7 || what >= 11 && what <= 14);
        int[] most = {50, 200, 200, 200, 200, 100, 100, 5, 0, 0, 0, 20, 200, 100, 200};
        argument(value >= (what == 0 ? 1 : 0) && value <= most[what]);
        argument(what != 5 || value + w.get("AGAIN") <= 100);
        argument(what != 6 || value + w.get("GOOD") <= 100);
        return w.set.put(NAMES[what], value);
    }

    public int spindleValue(int spindle, int what) {
        index(spindle, w.heads.size());
        argument(what >= 0 && what <= 7);
        Head h = w.heads.get(spindle);
        return new int[] {h.type, h.part == null ? NONE : h.part.kind, h.part != null && h.part.ready ? 1 : 0,
            h.part == null ? 0 : h.part.looks, h.placed, h.changes, h.rejected, h.wear}[what];
    }

    public int freeNozzles(int type) {
        index(type, w.told.size());
        return w.free(type);
    }

    public int nozzleFor(int kind) {
        index(kind, w.kinds.size());
        return w.kinds.get(kind);
    }

    public int feederValue(int feeder, int what) {
        index(feeder, w.sources.size());
        argument(what >= 0 && what <= 7);
        Source s = w.sources.get(feeder);
        return new int[] {s.kind, s.x, s.reels.get(0), s.miss, s.reels.size() - 1, s.taken, s.lost, s.spliced ? 1 : 0}[what];
    }

    public int splice(int feeder, int parts) {
        index(feeder, w.sources.size());
        argument(parts >= 0 && parts <= 500);
        Source s = w.sources.get(feeder);
        if (s.reels.size() == 4) {
            return -2;
        }
        s.reels.add(parts);
        s.came += parts;
        w.settle(s);
        return s.reels.size() - 1;
    }

    public int takeReel(int feeder) {
        index(feeder, w.sources.size());
        Source s = w.sources.get(feeder);
        if (s.reels.size() == 1) {
            return NONE;
        }
        int parts = s.reels.remove(s.reels.size() - 1);
        s.gone += parts;
        return parts;
    }

    public int setMiss(int feeder, int miss) {
        index(feeder, w.sources.size());
        argument(miss >= 0 && miss <= 100);
        int previous = w.sources.get(feeder).miss;
        w.sources.get(feeder).miss = miss;
        return previous;
    }

    public int moveFeeder(int feeder, int x) {
        index(feeder, w.sources.size());
        argument(x >= 0 && x <= 999);
        int previous = w.sources.get(feeder).x;
        w.sources.get(feeder).x = x;
        return previous;
    }

    public int nearestFeeder(int kind) {
        index(kind, w.kinds.size());
        return w.nearest(kind);
    }

    public int spotValue(int spot, int what) {
        index(spot, w.places.size());
        argument(what >= 0 && what <= 5);
        Place p = w.places.get(spot);
        return new int[] {p.kind, p.x, p.y, p.state, p.when, p.who}[what];
    }

    public boolean leaveOut(int spot, boolean out) {
        index(spot, w.places.size());
        Place p = w.places.get(spot);
        if (p.state != (out ? 0 : 2)) {
            return false;
        }
        p.state = out ? 2 : 0;
        return true;
    }

    public int openSpots(int kind) {
        index(kind, w.kinds.size());
        int open = 0;
        for (Place p : w.places) {
            open += p.kind == kind && p.state == 0 ? 1 : 0;
        }
        return open;
    }

    public int addBefore(int first, int second) {
        index(first, w.places.size());
        index(second, w.places.size());
        if (first == second || w.comesBefore(second, first)) {
            return -7;
        }
        if (!w.pairs.contains(Arrays.asList(first, second))) {
            if (w.pairs.size() == 20) {
                return -2;
            }
            w.pairs.add(Arrays.asList(first, second));
        }
        return w.pairs.size();
    }

    public boolean dropBefore(int first, int second) {
        index(first, w.places.size());
        index(second, w.places.size());
        return w.pairs.remove(Arrays.asList(first, second));
    }

    public long blockedBy(int spot) {
        index(spot, w.places.size());
        long sum = 0;
        for (List<Integer> pair : w.pairs) {
            if (pair.get(1) == spot && w.places.get(pair.get(0)).state == 0) {
                sum += 1L << pair.get(0);
            }
        }
        return sum;
    }

    public int chain(int spot) {
        index(spot, w.places.size());
        return w.chain(spot);
    }

    public long fillableSet() {
        long sum = 0;
        for (int kind = 0; kind < w.kinds.size(); kind++) {
            for (int spot : w.fillable(kind)) {
                sum += 1L << spot;
            }
        }
        return sum;
    }

    public long filledSet() {
        long sum = 0;
        for (int i = 0; i < w.places.size(); i++) {
            sum += w.places.get(i).state == 1 ? 1L << i : 0;
        }
        return sum;
    }

    public int newBoard() {
        w.boards++;
        int filled = w.filled();
        for (Place p : w.places) {
            if (p.state == 1) {
                p.state = 0;
                p.when = NONE;
                p.who = NONE;
            }
        }
        return filled;
    }

    public int boards() {
        return w.boards;
    }

    public int changeNozzle(int spindle, int type) {
        index(spindle, w.heads.size());
        index(type, w.told.size());
        Head h = w.heads.get(spindle);
        return h.part != null ? -3 : h.type == type ? -5 : w.free(type) == 0 ? -4 : w.act(1, spindle, type);
    }

    public int pick(int spindle, int feeder) {
        index(spindle, w.heads.size());
        index(feeder, w.sources.size());
        Head h = w.heads.get(spindle);
        Source s = w.sources.get(feeder);
        return h.part != null ? -3 : h.type != w.kinds.get(s.kind) ? -5 : s.reels.get(0) == 0 ? -4 : w.act(2, spindle, feeder);
    }

    public int look(int spindle) {
        index(spindle, w.heads.size());
        Part part = w.heads.get(spindle).part;
        return part == null || part.ready ? -3 : w.act(3, spindle, 0);
    }

    public int place(int spindle, int spot) {
        index(spindle, w.heads.size());
        index(spot, w.places.size());
        Part part = w.heads.get(spindle).part;
        Place p = w.places.get(spot);
        if (part == null || !part.ready || p.state != 0) {
            return -3;
        }
        return part.kind != p.kind ? -5 : w.isBlocked(spot) ? -6 : w.act(4, spindle, spot);
    }

    public int discard(int spindle) {
        index(spindle, w.heads.size());
        return w.heads.get(spindle).part == null ? -3 : w.act(5, spindle, 0);
    }

    public int clean(int spindle) {
        index(spindle, w.heads.size());
        Head h = w.heads.get(spindle);
        return h.part != null ? -3 : h.type == NONE ? -4 : w.act(6, spindle, 0);
    }

    public int nextAction() {
        int[] next = w.plan();
        return next == null ? NONE : 10000 * next[0] + 100 * next[1] + next[2];
    }

    public int step() {
        int[] next = w.plan();
        return next == null ? NONE : w.act(next[0], next[1], next[2]);
    }

    public int run(int most) {
        argument(most >= 1 && most <= 500);
        int done = 0;
        while (done < most && step() != NONE) {
            done++;
        }
        return done;
    }

    public boolean isHalted() {
        return w.halted;
    }

    public boolean resume() {
        boolean was = w.halted;
        w.halted = false;
        w.bad = 0;
        return was;
    }

    public int ledger(int kind, int what) {
        index(kind, w.kinds.size());
        argument(what >= 0 && what <= 6);
        int came = 0;
        int lost = 0;
        int gone = 0;
        for (Source s : w.sources) {
            if (s.kind == kind) {
                came += s.came;
                lost += s.lost;
                gone += s.gone;
            }
        }
        return new int[] {came, w.inReels(kind), w.held(kind), w.placed[kind], w.rejected[kind], lost, gone}[what];
    }

    public boolean isBalanced() {
        return true;
    }

    public int now() {
        return w.time;
    }

    public int head(int what) {
        argument(what == 0 || what == 1);
        return what == 0 ? w.x : w.y;
    }

    public int done(int action) {
        argument(action >= 1 && action <= 6);
        return w.doneOf(action);
    }

    public int timeOf(int action) {
        argument(action >= 1 && action <= 6);
        int sum = 0;
        for (int[] entry : w.log) {
            sum += entry[0] / 10000 == action ? entry[3] : 0;
        }
        return sum;
    }

    public int shareOf(int action) {
        long part = timeOf(action);
        return w.time == 0 ? NONE : (int) (1000 * part / w.time);
    }

    public int lookRate() {
        int good = 0;
        for (int[] entry : w.log) {
            good += entry[0] / 10000 == 3 && entry[1] == 1 ? 1 : 0;
        }
        int all = w.doneOf(3);
        return all == 0 ? NONE : 1000 * good / all;
    }

    public int logSize() {
        return Math.min(40, w.log.size());
    }

    public int logEntry(int index, int what) {
        argument(what >= 0 && what <= 2);
        int size = logSize();
        return index < 0 || index >= size ? NONE : w.log.get(w.log.size() - size + index)[what];
    }

    public int actionsToEnd() {
        World ahead = w.copy();
        return ahead.toEnd() ? ahead.log.size() - w.log.size() : NONE;
    }

    private static int end(World ahead) {
        return ahead.toEnd() ? ahead.time : NONE;
    }

    public int timeAtEnd() {
        return end(w.copy());
    }

    public int filledAtEnd() {
        World ahead = w.copy();
        ahead.toEnd();
        return ahead.filled();
    }

    public int shortage(int kind) {
        return shortageFor(kind, 1);
    }

    public int shortageFor(int kind, int boards) {
        index(kind, w.kinds.size());
        argument(boards >= 1 && boards <= 1000);
        int missing = -w.inReels(kind) - w.held(kind);
        for (Place p : w.places) {
            if (p.kind == kind && p.state != 2) {
                missing += (p.state == 0 ? 1 : 0) + boards - 1;
            }
        }
        return Math.max(0, missing);
    }

    public int boardsPossible() {
        for (int boards = 1; boards <= 1000; boards++) {
            for (int kind = 0; kind < w.kinds.size(); kind++) {
                if (shortageFor(kind, boards) > 0) {
                    return boards - 1;
                }
            }
        }
        return 1000;
    }

    public int runsOut(int feeder) {
        index(feeder, w.sources.size());
        World ahead = w.copy();
        for (int i = 0; i <= 1000; i++) {
            if (ahead.sources.get(feeder).reels.get(0) == 0 && ahead.sources.get(feeder).reels.size() == 1) {
                return i;
            }
            int[] next = ahead.plan();
            if (next == null) {
                return NONE;
            }
            ahead.act(next[0], next[1], next[2]);
        }
        return NONE;
    }

    public int splicesAhead() {
        World ahead = w.copy();
        ahead.toEnd();
        return ahead.splices - w.splices;
    }

    public int bestRetries() {
        List<long[]> all = new ArrayList<>();
        for (int retries = 0; retries <= 5; retries++) {
            World ahead = w.copy();
            ahead.set.put("RETRIES", retries);
            ahead.toEnd();
            all.add(new long[] {-ahead.filled(), ahead.time, retries});
        }
        return (int) least(all)[2];
    }

    private static long[] least(List<long[]> all) {
        all.sort(Arrays::compare);
        return all.get(0);
    }

    public int dearestSpot() {
        List<long[]> all = new ArrayList<>();
        for (int i = 0; i < w.places.size(); i++) {
            if (w.places.get(i).state == 0) {
                World ahead = w.copy();
                ahead.places.get(i).state = 2;
                if (ahead.toEnd()) {
                    all.add(new long[] {ahead.time, i});
                }
            }
        }
        return all.isEmpty() ? NONE : (int) least(all)[1];
    }

    public int bestSwap() {
        int base = timeAtEnd();
        List<long[]> all = new ArrayList<>();
        for (int i = 0; i < w.sources.size(); i++) {
            for (int k = i + 1; k < w.sources.size(); k++) {
                World ahead = w.copy();
                ahead.sources.get(i).x = w.sources.get(k).x;
                ahead.sources.get(k).x = w.sources.get(i).x;
                if (ahead.toEnd() && ahead.time < base) {
                    all.add(new long[] {ahead.time, 100 * i + k});
                }
            }
        }
        return all.isEmpty() ? NONE : (int) least(all)[1];
    }

    public int changesAhead() {
        World ahead = w.copy();
        ahead.toEnd();
        return ahead.doneOf(1) - w.doneOf(1);
    }

    public int cleansAhead() {
        World ahead = w.copy();
        ahead.toEnd();
        return ahead.doneOf(6) - w.doneOf(6);
    }

    public int saveSnapshot(int slot) {
        argument(slot == 0 || slot == 1);
        saved[slot] = w.copy();
        return w.time;
    }

    public int restoreSnapshot(int slot) {
        argument(slot == 0 || slot == 1);
        if (saved[slot] == null) {
            return NONE;
        }
        w = saved[slot].copy();
        return w.time;
    }
}
