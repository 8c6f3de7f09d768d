import java.util.Arrays;

/**
 * A machine that places parts on a board, as ../shared/DOC.md describes it.
 *
 * <p>The whole state stands in one Machine. Predictions, and a description that is being read, use a second one,
 * and each snapshot is a further one: all of them are made in the constructor, and no call makes an object.
 */
public final class PlacerHead {
    public static final int NONE = -1;
    public static final int FULL = -2;
    public static final int WRONG_STATE = -3;
    public static final int EMPTY = -4;
    public static final int MISMATCH = -5;
    public static final int BLOCKED = -6;
    public static final int CIRCLE = -7;

    private static final int BUFFER_LIMIT = 900;
    private static final int SLOTS = 2;
    private static final int SPINDLE_LIMIT = 4;
    private static final int TYPE_LIMIT = 6;
    private static final int KIND_LIMIT = 8;
    private static final int FEEDER_LIMIT = 10;
    private static final int SPOT_LIMIT = 40;
    private static final int PAIR_LIMIT = 20;
    private static final int WAITING_LIMIT = 3;
    private static final int LOG_LIMIT = 40;
    private static final int AHEAD_LIMIT = 1000;
    private static final int RUN_LIMIT = 500;
    private static final int BOARD_LIMIT = 1000;

    private static final int COORDINATE_MOST = 999;
    private static final int PARTS_MOST = 500;
    private static final int PERCENT_MOST = 100;
    private static final int NOZZLES_MOST = 4;

    /* The settings, by the numbers of setting(int); the times of the actions 1 to 4 have the actions' numbers. */
    private static final int SPEED = 0;
    private static final int CHANGE_TIME = 1;
    private static final int PICK_TIME = 2;
    private static final int VISION_TIME = 3;
    private static final int PLACE_TIME = 4;
    private static final int GOOD = 5;
    private static final int AGAIN = 6;
    private static final int RETRIES = 7;
    private static final int CAMERA_X = 8;
    private static final int CAMERA_Y = 9;
    private static final int SEED = 10;
    private static final int ALARM = 11;
    private static final int WEAR_LIMIT = 12;
    private static final int WEAR_LOSS = 13;
    private static final int CLEAN_TIME = 14;
    private static final int SETTINGS = 15;
    private static final int[] DEFAULTS = {10, 30, 10, 8, 10, 90, 6, 2, 500, 0, 1, 0, 0, 0, 20};
    private static final int[] LEAST = {1, 0, 0, 0, 0, 0, 0, 0, 0, 0, 0, 0, 0, 0, 0};
    private static final int[] MOST = {50, 200, 200, 200, 200, 100, 100, 5, 999, 999, 999999, 20, 200, 100, 200};

    private static final int CHANGE = 1;
    private static final int PICK = 2;
    private static final int LOOK = 3;
    private static final int PLACE = 4;
    private static final int DISCARD = 5;
    private static final int CLEAN = 6;
    private static final int ACTIONS = 6;

    private static final int FAILED = 0;
    private static final int SUCCESS = 1;
    private static final int UNCERTAIN = 0;
    private static final int REJECTED = 2;

    private final byte[] buffer;
    private int buffered;
    private int latestError;
    private final Machine machine;
    private final Plan plan;
    private final Forecast forecast;
    private final Machine fresh;
    private final Description description;
    private final Machine[] snapshots;
    private final boolean[] saved;

    public PlacerHead() {
        buffer = new byte[BUFFER_LIMIT];
        machine = new Machine();
        plan = new Plan(machine);
        // A prediction and a description never last beyond their call, so that one machine is enough for both.
        fresh = new Machine();
        forecast = new Forecast(machine, fresh);
        description = new Description(buffer, fresh);
        snapshots = new Machine[SLOTS];
        for (int slot = 0; slot < SLOTS; slot++) {
            snapshots[slot] = new Machine();
        }
        saved = new boolean[SLOTS];
    }

    // ---- descriptions

    public int append(long bytes) {
        int more = 0;
        for (int shift = 56; shift >= 0; shift -= 8) {
            if ((byte) (bytes >>> shift) != 0) {
                more++;
            }
        }
        if (buffered + more > BUFFER_LIMIT) {
            return FULL;
        }
        for (int shift = 56; shift >= 0; shift -= 8) {
            byte one = (byte) (bytes >>> shift);
            if (one != 0 && buffered < BUFFER_LIMIT) {
                buffer[buffered] = one;
                buffered++;
            }
        }
        return buffered;
    }

    public int load() {
        int length = buffered;
        buffered = 0;
        description.readText(length);
        latestError = description.error;
        if (latestError != 0) {
            return -100 - description.errorAt;
        }
        machine.copyFrom(fresh);
        return machine.board.size;
    }

    public int loadError() {
        return latestError;
    }

    public int count(int what) throws IllegalArgumentException {
        switch (what) {
            case 0:
                return machine.spindleCount;
            case 1:
                return machine.types;
            case 2:
                return machine.kinds.size;
            case 3:
                return machine.feederCount;
            case 4:
                return machine.board.size;
            case 5:
                return machine.board.pairs;
            default:
                throw new IllegalArgumentException("what is 0 to 5");
        }
    }

    public int setting(int what) throws IllegalArgumentException {
        requireRange(what, 0, SETTINGS - 1);
        return machine.settings[what];
    }

    public int set(int what, int value) throws IllegalArgumentException {
        requireRange(what, 0, SETTINGS - 1);
        if (what == CAMERA_X || what == CAMERA_Y || what == SEED) {
            throw new IllegalArgumentException("the camera and the seed stay");
        }
        int most = MOST[what];
        if (what == GOOD) {
            most = PERCENT_MOST - machine.settings[AGAIN];
        } else if (what == AGAIN) {
            most = PERCENT_MOST - machine.settings[GOOD];
        }
        requireRange(value, LEAST[what], most);
        int previous = machine.settings[what];
        machine.settings[what] = value;
        return previous;
    }

    // ---- spindles and nozzles

    public int spindleValue(int spindle, int what) throws IndexOutOfBoundsException, IllegalArgumentException {
        requireIndex(spindle, machine.spindleCount);
        requireRange(what, 0, 7);
        return machine.spindles[spindle].valueOf(what);
    }

    public int freeNozzles(int type) throws IndexOutOfBoundsException {
        requireIndex(type, machine.types);
        return machine.free[type];
    }

    public int nozzleFor(int kind) throws IndexOutOfBoundsException {
        requireIndex(kind, machine.kinds.size);
        return machine.kinds.nozzle[kind];
    }

    // ---- feeders

    public int feederValue(int feeder, int what) throws IndexOutOfBoundsException, IllegalArgumentException {
        requireIndex(feeder, machine.feederCount);
        requireRange(what, 0, 7);
        return machine.feeders[feeder].valueOf(what);
    }

    public int splice(int feeder, int parts) throws IndexOutOfBoundsException, IllegalArgumentException {
        requireIndex(feeder, machine.feederCount);
        requireRange(parts, 0, PARTS_MOST);
        Feeder at = machine.feeders[feeder];
        if (at.waiting >= WAITING_LIMIT) {
            return FULL;
        }
        at.addReel(parts);
        machine.kinds.came[at.kind] += parts;
        machine.journal.splices += at.spliceIfEmpty();
        return at.waiting;
    }

    public int takeReel(int feeder) throws IndexOutOfBoundsException {
        requireIndex(feeder, machine.feederCount);
        Feeder at = machine.feeders[feeder];
        if (at.waiting == 0) {
            return NONE;
        }
        int parts = at.removeLastReel();
        machine.kinds.away[at.kind] += parts;
        return parts;
    }

    public int setMiss(int feeder, int miss) throws IndexOutOfBoundsException, IllegalArgumentException {
        requireIndex(feeder, machine.feederCount);
        requireRange(miss, 0, PERCENT_MOST);
        int previous = machine.feeders[feeder].miss;
        machine.feeders[feeder].miss = miss;
        return previous;
    }

    public int moveFeeder(int feeder, int x) throws IndexOutOfBoundsException, IllegalArgumentException {
        requireIndex(feeder, machine.feederCount);
        requireRange(x, 0, COORDINATE_MOST);
        int previous = machine.feeders[feeder].x;
        machine.feeders[feeder].x = x;
        return previous;
    }

    public int nearestFeeder(int kind) throws IndexOutOfBoundsException {
        requireIndex(kind, machine.kinds.size);
        return machine.nearestWith(kind);
    }

    // ---- spots

    public int spotValue(int spot, int what) throws IndexOutOfBoundsException, IllegalArgumentException {
        requireIndex(spot, machine.board.size);
        requireRange(what, 0, 5);
        return machine.board.valueOf(spot, what);
    }

    public boolean leaveOut(int spot, boolean out) throws IndexOutOfBoundsException {
        requireIndex(spot, machine.board.size);
        return out ? machine.board.close(spot) : machine.board.reopen(spot);
    }

    public int openSpots(int kind) throws IndexOutOfBoundsException {
        requireIndex(kind, machine.kinds.size);
        return machine.board.openOf(kind);
    }

    public int addBefore(int first, int second) throws IndexOutOfBoundsException {
        requireIndex(first, machine.board.size);
        requireIndex(second, machine.board.size);
        Board board = machine.board;
        if (board.wouldCircle(first, second)) {
            return CIRCLE;
        }
        if (board.pairIndex(first, second) == NONE) {
            if (board.pairs >= PAIR_LIMIT) {
                return FULL;
            }
            board.addPair(first, second);
        }
        return board.pairs;
    }

    public boolean dropBefore(int first, int second) throws IndexOutOfBoundsException {
        requireIndex(first, machine.board.size);
        requireIndex(second, machine.board.size);
        int pair = machine.board.pairIndex(first, second);
        if (pair == NONE) {
            return false;
        }
        machine.board.removePair(pair);
        return true;
    }

    public long blockedBy(int spot) throws IndexOutOfBoundsException {
        requireIndex(spot, machine.board.size);
        return machine.board.firstsOf(1L << spot) & machine.board.open;
    }

    public int chain(int spot) throws IndexOutOfBoundsException {
        requireIndex(spot, machine.board.size);
        return machine.board.longestChain(spot);
    }

    public long fillableSet() {
        return machine.board.fillable();
    }

    public long filledSet() {
        return machine.board.filled;
    }

    public int newBoard() {
        machine.boardsBegun++;
        return machine.board.reopenFilled();
    }

    public int boards() {
        return machine.boardsBegun;
    }

    // ---- actions

    public int changeNozzle(int spindle, int type) throws IndexOutOfBoundsException {
        requireIndex(spindle, machine.spindleCount);
        requireIndex(type, machine.types);
        Spindle by = machine.spindles[spindle];
        if (by.held != NONE) {
            return WRONG_STATE;
        }
        if (by.nozzle == type) {
            return MISMATCH;
        }
        if (machine.free[type] == 0) {
            return EMPTY;
        }
        return machine.perform(CHANGE, spindle, type);
    }

    public int pick(int spindle, int feeder) throws IndexOutOfBoundsException {
        requireIndex(spindle, machine.spindleCount);
        requireIndex(feeder, machine.feederCount);
        Spindle by = machine.spindles[spindle];
        Feeder from = machine.feeders[feeder];
        if (by.held != NONE) {
            return WRONG_STATE;
        }
        if (by.nozzle != machine.kinds.nozzle[from.kind]) {
            return MISMATCH;
        }
        if (from.parts == 0) {
            return EMPTY;
        }
        return machine.perform(PICK, spindle, feeder);
    }

    public int look(int spindle) throws IndexOutOfBoundsException {
        requireIndex(spindle, machine.spindleCount);
        Spindle by = machine.spindles[spindle];
        if (by.held == NONE || by.ready) {
            return WRONG_STATE;
        }
        return machine.perform(LOOK, spindle, 0);
    }

    public int place(int spindle, int spot) throws IndexOutOfBoundsException {
        requireIndex(spindle, machine.spindleCount);
        requireIndex(spot, machine.board.size);
        Spindle by = machine.spindles[spindle];
        Board board = machine.board;
        if (by.held == NONE || !by.ready || !board.isOpen(spot)) {
            return WRONG_STATE;
        }
        if (by.held != board.kind[spot]) {
            return MISMATCH;
        }
        if ((board.firstsOf(1L << spot) & board.open) != 0) {
            return BLOCKED;
        }
        return machine.perform(PLACE, spindle, spot);
    }

    public int discard(int spindle) throws IndexOutOfBoundsException {
        requireIndex(spindle, machine.spindleCount);
        if (machine.spindles[spindle].held == NONE) {
            return WRONG_STATE;
        }
        return machine.perform(DISCARD, spindle, 0);
    }

    public int clean(int spindle) throws IndexOutOfBoundsException {
        requireIndex(spindle, machine.spindleCount);
        Spindle by = machine.spindles[spindle];
        if (by.held != NONE) {
            return WRONG_STATE;
        }
        if (by.nozzle == NONE) {
            return EMPTY;
        }
        return machine.perform(CLEAN, spindle, 0);
    }

    public int nextAction() {
        return plan.next() ? codeOf(plan.action, plan.spindle, plan.target) : NONE;
    }

    public int step() {
        return plan.follow();
    }

    public int run(int most) throws IllegalArgumentException {
        requireRange(most, 1, RUN_LIMIT);
        for (int actions = 0; actions < most; actions++) {
            if (plan.follow() == NONE) {
                return actions;
            }
        }
        return most;
    }

    public boolean isHalted() {
        return machine.halted;
    }

    public boolean resume() {
        boolean was = machine.halted;
        machine.halted = false;
        machine.rejectsInRow = 0;
        return was;
    }

    // ---- the ledger

    public int ledger(int kind, int what) throws IndexOutOfBoundsException, IllegalArgumentException {
        requireIndex(kind, machine.kinds.size);
        requireRange(what, 0, 6);
        return machine.partsOf(kind, what);
    }

    public boolean isBalanced() {
        for (int kind = 0; kind < machine.kinds.size; kind++) {
            int found = 0;
            for (int what = 1; what <= 6; what++) {
                found += machine.partsOf(kind, what);
            }
            if (found != machine.partsOf(kind, 0)) {
                return false;
            }
        }
        return true;
    }

    public int now() {
        return machine.time;
    }

    public int head(int what) throws IllegalArgumentException {
        requireRange(what, 0, 1);
        return what == 0 ? machine.x : machine.y;
    }

    public int done(int action) throws IllegalArgumentException {
        requireRange(action, 1, ACTIONS);
        return machine.journal.times[action];
    }

    public int timeOf(int action) throws IllegalArgumentException {
        requireRange(action, 1, ACTIONS);
        return machine.journal.spent[action];
    }

    public int shareOf(int action) throws IllegalArgumentException {
        requireRange(action, 1, ACTIONS);
        return perMille(machine.journal.spent[action], machine.time);
    }

    public int lookRate() {
        return perMille(machine.journal.goodLooks, machine.journal.times[LOOK]);
    }

    public int logSize() {
        return machine.journal.size;
    }

    public int logEntry(int index, int what) throws IllegalArgumentException {
        requireRange(what, 0, 2);
        if (index < 0 || index >= machine.journal.size) {
            return NONE;
        }
        return machine.journal.entry(index, what);
    }

    // ---- predictions

    public int actionsToEnd() {
        forecast.begin();
        forecast.goOn();
        return forecast.end == NONE ? NONE : forecast.actions;
    }

    public int timeAtEnd() {
        forecast.begin();
        forecast.goOn();
        return forecast.end;
    }

    public int filledAtEnd() {
        forecast.begin();
        forecast.goOn();
        return Long.bitCount(fresh.board.filled);
    }

    public int shortage(int kind) throws IndexOutOfBoundsException {
        requireIndex(kind, machine.kinds.size);
        return machine.missing(kind, 1);
    }

    public int shortageFor(int kind, int boards) throws IndexOutOfBoundsException, IllegalArgumentException {
        requireIndex(kind, machine.kinds.size);
        requireRange(boards, 1, BOARD_LIMIT);
        return machine.missing(kind, boards);
    }

    public int boardsPossible() {
        int possible = BOARD_LIMIT;
        for (int kind = 0; kind < machine.kinds.size; kind++) {
            possible = Math.min(possible, machine.boardsFor(kind));
        }
        return possible;
    }

    public int runsOut(int feeder) throws IndexOutOfBoundsException {
        requireIndex(feeder, machine.feederCount);
        forecast.begin();
        return forecast.actionsUntilEmpty(feeder);
    }

    public int splicesAhead() {
        forecast.begin();
        forecast.goOn();
        return fresh.journal.splices - machine.journal.splices;
    }

    public int bestRetries() {
        int best = 0;
        int mostFilled = -1;
        int earliest = 0;
        for (int retries = LEAST[RETRIES]; retries <= MOST[RETRIES]; retries++) {
            forecast.begin();
            fresh.settings[RETRIES] = retries;
            forecast.goOn();
            int filled = Long.bitCount(fresh.board.filled);
            if (filled > mostFilled || (filled == mostFilled && fresh.time < earliest)) {
                best = retries;
                mostFilled = filled;
                earliest = fresh.time;
            }
        }
        return best;
    }

    public int dearestSpot() {
        int dearest = NONE;
        int earliest = NONE;
        for (int spot = 0; spot < machine.board.size; spot++) {
            if (machine.board.isOpen(spot)) {
                forecast.begin();
                fresh.board.close(spot);
                forecast.goOn();
                if (forecast.end != NONE && (earliest == NONE || forecast.end < earliest)) {
                    dearest = spot;
                    earliest = forecast.end;
                }
            }
        }
        return dearest;
    }

    public int bestSwap() {
        forecast.begin();
        forecast.goOn();
        int earliest = forecast.end;
        int best = NONE;
        if (earliest == NONE) {
            return NONE;
        }
        for (int one = 0; one < machine.feederCount; one++) {
            for (int other = one + 1; other < machine.feederCount; other++) {
                forecast.begin();
                fresh.feeders[one].x = machine.feeders[other].x;
                fresh.feeders[other].x = machine.feeders[one].x;
                forecast.goOn();
                if (forecast.end != NONE && forecast.end < earliest) {
                    best = 100 * one + other;
                    earliest = forecast.end;
                }
            }
        }
        return best;
    }

    public int changesAhead() {
        forecast.begin();
        forecast.goOn();
        return fresh.journal.times[CHANGE] - machine.journal.times[CHANGE];
    }

    public int cleansAhead() {
        forecast.begin();
        forecast.goOn();
        return fresh.journal.times[CLEAN] - machine.journal.times[CLEAN];
    }

    public int saveSnapshot(int slot) throws IllegalArgumentException {
        requireRange(slot, 0, SLOTS - 1);
        snapshots[slot].copyFrom(machine);
        saved[slot] = true;
        return machine.time;
    }

    public int restoreSnapshot(int slot) throws IllegalArgumentException {
        requireRange(slot, 0, SLOTS - 1);
        if (!saved[slot]) {
            return NONE;
        }
        machine.copyFrom(snapshots[slot]);
        return machine.time;
    }

    private static void requireIndex(int index, int size) {
        if (index < 0 || index >= size) {
            throw new IndexOutOfBoundsException("there is no such thing");
        }
    }

    private static void requireRange(int value, int least, int most) {
        if (value < least || value > most) {
            throw new IllegalArgumentException("a number is out of its range");
        }
    }

    private static int perMille(int part, int whole) {
        // In 1000 * part an int can overflow: half a million actions may take 300 million units of time.
        return whole == 0 ? NONE : (int) (1000L * part / whole);
    }

    private static int codeOf(int action, int spindle, int target) {
        return 10000 * action + 100 * spindle + target;
    }

    /** One spindle of the head, with its nozzle and the part that it holds. */
    private static final class Spindle {
        private int nozzle;
        private int held;
        private boolean ready;
        private int looks;
        private int placed;
        private int changes;
        private int rejected;
        private int wear;

        private void clear() {
            nozzle = NONE;
            dropPart();
            placed = 0;
            changes = 0;
            rejected = 0;
            wear = 0;
        }

        private void dropPart() {
            held = NONE;
            ready = false;
            looks = 0;
        }

        private void copyFrom(Spindle other) {
            nozzle = other.nozzle;
            held = other.held;
            ready = other.ready;
            looks = other.looks;
            placed = other.placed;
            changes = other.changes;
            rejected = other.rejected;
            wear = other.wear;
        }

        private int valueOf(int what) {
            switch (what) {
                case 0:
                    return nozzle;
                case 1:
                    return held;
                case 2:
                    return ready ? 1 : 0;
                case 3:
                    return looks;
                case 4:
                    return placed;
                case 5:
                    return changes;
                case 6:
                    return rejected;
                default:
                    return wear;
            }
        }
    }

    /** A feeder with its reel and the reels that wait. */
    private static final class Feeder {
        private int kind;
        private int x;
        private int parts;
        private int miss;
        private int waiting;
        private final int[] reels = new int[WAITING_LIMIT];
        private int taken;
        private int lost;
        private boolean failsBySplice;

        private void clear(int ofKind, int atX, int withParts, int withMiss) {
            kind = ofKind;
            x = atX;
            parts = withParts;
            miss = withMiss;
            waiting = 0;
            taken = 0;
            lost = 0;
            failsBySplice = false;
        }

        private void copyFrom(Feeder other) {
            kind = other.kind;
            x = other.x;
            parts = other.parts;
            miss = other.miss;
            waiting = other.waiting;
            System.arraycopy(other.reels, 0, reels, 0, WAITING_LIMIT);
            taken = other.taken;
            lost = other.lost;
            failsBySplice = other.failsBySplice;
        }

        private int valueOf(int what) {
            switch (what) {
                case 0:
                    return kind;
                case 1:
                    return x;
                case 2:
                    return parts;
                case 3:
                    return miss;
                case 4:
                    return waiting;
                case 5:
                    return taken;
                case 6:
                    return lost;
                default:
                    return failsBySplice ? 1 : 0;
            }
        }

        private void addReel(int withParts) {
            if (waiting < WAITING_LIMIT) {
                reels[waiting] = withParts;
                waiting++;
            }
        }

        private int removeLastReel() {
            if (waiting <= 0) {
                return 0;
            }
            waiting--;
            return reels[waiting];
        }

        /** Returns how many reels were spliced: more than one if reels without parts come. */
        private int spliceIfEmpty() {
            int spliced = 0;
            while (parts == 0 && waiting > 0) {
                parts = reels[0];
                waiting--;
                System.arraycopy(reels, 1, reels, 0, waiting);
                failsBySplice = true;
                spliced++;
            }
            return spliced;
        }

        private int allParts() {
            int sum = parts;
            for (int reel = 0; reel < waiting; reel++) {
                sum += reels[reel];
            }
            return sum;
        }
    }

    /** The kinds of parts, and the parts of each that came and that are neither in reels nor on the head any more. */
    private static final class Kinds {
        private int size;
        private final int[] nozzle = new int[KIND_LIMIT];
        private final int[] came = new int[KIND_LIMIT];
        private final int[] placed = new int[KIND_LIMIT];
        private final int[] rejected = new int[KIND_LIMIT];
        private final int[] lost = new int[KIND_LIMIT];
        private final int[] away = new int[KIND_LIMIT];

        private void clear() {
            size = 0;
            Arrays.fill(came, 0);
            Arrays.fill(placed, 0);
            Arrays.fill(rejected, 0);
            Arrays.fill(lost, 0);
            Arrays.fill(away, 0);
        }

        private void copyFrom(Kinds other) {
            size = other.size;
            System.arraycopy(other.nozzle, 0, nozzle, 0, KIND_LIMIT);
            System.arraycopy(other.came, 0, came, 0, KIND_LIMIT);
            System.arraycopy(other.placed, 0, placed, 0, KIND_LIMIT);
            System.arraycopy(other.rejected, 0, rejected, 0, KIND_LIMIT);
            System.arraycopy(other.lost, 0, lost, 0, KIND_LIMIT);
            System.arraycopy(other.away, 0, away, 0, KIND_LIMIT);
        }

        private void add(int withNozzle) {
            if (size < KIND_LIMIT) {
                nozzle[size] = withNozzle;
                size++;
            }
        }
    }

    /** The spots and the pairs of them; a set of spots is a sum of 2^k over its spots k. */
    private static final class Board {
        private int size;
        private final int[] kind = new int[SPOT_LIMIT];
        private final int[] x = new int[SPOT_LIMIT];
        private final int[] y = new int[SPOT_LIMIT];
        private final int[] filledAt = new int[SPOT_LIMIT];
        private final int[] filledBy = new int[SPOT_LIMIT];
        private final long[] ofKind = new long[KIND_LIMIT];
        private long open;
        private long filled;
        private int pairs;
        private final int[] first = new int[PAIR_LIMIT];
        private final int[] second = new int[PAIR_LIMIT];

        private void clear() {
            size = 0;
            Arrays.fill(ofKind, 0L);
            open = 0;
            filled = 0;
            pairs = 0;
        }

        private void copyFrom(Board other) {
            size = other.size;
            System.arraycopy(other.kind, 0, kind, 0, size);
            System.arraycopy(other.x, 0, x, 0, size);
            System.arraycopy(other.y, 0, y, 0, size);
            System.arraycopy(other.filledAt, 0, filledAt, 0, size);
            System.arraycopy(other.filledBy, 0, filledBy, 0, size);
            System.arraycopy(other.ofKind, 0, ofKind, 0, KIND_LIMIT);
            open = other.open;
            filled = other.filled;
            pairs = other.pairs;
            System.arraycopy(other.first, 0, first, 0, pairs);
            System.arraycopy(other.second, 0, second, 0, pairs);
        }

        private void addSpot(int forKind, int atX, int atY) {
            if (size < SPOT_LIMIT) {
                kind[size] = forKind;
                x[size] = atX;
                y[size] = atY;
                ofKind[forKind] |= 1L << size;
                open |= 1L << size;
                size++;
            }
        }

        private int valueOf(int spot, int what) {
            switch (what) {
                case 0:
                    return kind[spot];
                case 1:
                    return x[spot];
                case 2:
                    return y[spot];
                case 3:
                    return isOpen(spot) ? 0 : isFilled(spot) ? 1 : 2;
                case 4:
                    return isFilled(spot) ? filledAt[spot] : NONE;
                default:
                    return isFilled(spot) ? filledBy[spot] : NONE;
            }
        }

        private boolean isOpen(int spot) {
            return (open & (1L << spot)) != 0;
        }

        private boolean isFilled(int spot) {
            return (filled & (1L << spot)) != 0;
        }

        private boolean close(int spot) {
            if (!isOpen(spot)) {
                return false;
            }
            open &= ~(1L << spot);
            return true;
        }

        private boolean reopen(int spot) {
            if (isOpen(spot) || isFilled(spot)) {
                return false;
            }
            open |= 1L << spot;
            return true;
        }

        private void fill(int spot, int spindle, int time) {
            open &= ~(1L << spot);
            filled |= 1L << spot;
            filledAt[spot] = time;
            filledBy[spot] = spindle;
        }

        private int reopenFilled() {
            int were = Long.bitCount(filled);
            open |= filled;
            filled = 0;
            return were;
        }

        private int openOf(int ofTheKind) {
            return Long.bitCount(open & ofKind[ofTheKind]);
        }

        /** Returns how many parts of a kind a further board needs: filled spots will be open then. */
        private int boardNeeds(int ofTheKind) {
            return Long.bitCount((open | filled) & ofKind[ofTheKind]);
        }

        /** Returns the spots that are open and not blocked. */
        private long fillable() {
            long spots = open;
            for (int pair = 0; pair < pairs; pair++) {
                if (isOpen(first[pair])) {
                    spots &= ~(1L << second[pair]);
                }
            }
            return spots;
        }

        private int pairIndex(int before, int behind) {
            for (int pair = 0; pair < pairs; pair++) {
                if (first[pair] == before && second[pair] == behind) {
                    return pair;
                }
            }
            return NONE;
        }

        private void addPair(int before, int behind) {
            if (pairs < PAIR_LIMIT) {
                first[pairs] = before;
                second[pairs] = behind;
                pairs++;
            }
        }

        private void removePair(int pair) {
            pairs--;
            first[pair] = first[pairs];
            second[pair] = second[pairs];
        }

        /** Returns the spots that come before one of these spots, by the pairs as they were told. */
        private long firstsOf(long spots) {
            long firsts = 0;
            for (int pair = 0; pair < pairs; pair++) {
                if ((spots & (1L << second[pair])) != 0) {
                    firsts |= 1L << first[pair];
                }
            }
            return firsts;
        }

        /** Tells whether a pair would let a spot come before itself, also through others. */
        private boolean wouldCircle(int before, int behind) {
            long reached = 1L << before;
            for (int round = 0; round < pairs; round++) {
                reached |= firstsOf(reached);
            }
            return (reached & (1L << behind)) != 0;
        }

        private int longestChain(int spot) {
            long spots = firstsOf(1L << spot);
            int length = 0;
            // As there is no circle, a chain has at most as many spots as there are pairs.
            while (spots != 0 && length < PAIR_LIMIT) {
                length++;
                spots = firstsOf(spots);
            }
            return length;
        }
    }

    /** What was done: the log of the latest actions, and the sums over all. */
    private static final class Journal {
        private int size;
        private int oldest;
        private final int[] codes = new int[LOG_LIMIT];
        private final int[] results = new int[LOG_LIMIT];
        private final int[] ends = new int[LOG_LIMIT];
        private final int[] times = new int[ACTIONS + 1];
        private final int[] spent = new int[ACTIONS + 1];
        private int goodLooks;
        private int splices;

        private void clear() {
            size = 0;
            oldest = 0;
            Arrays.fill(times, 0);
            Arrays.fill(spent, 0);
            goodLooks = 0;
            splices = 0;
        }

        private void copyFrom(Journal other) {
            size = other.size;
            oldest = other.oldest;
            System.arraycopy(other.codes, 0, codes, 0, LOG_LIMIT);
            System.arraycopy(other.results, 0, results, 0, LOG_LIMIT);
            System.arraycopy(other.ends, 0, ends, 0, LOG_LIMIT);
            System.arraycopy(other.times, 0, times, 0, ACTIONS + 1);
            System.arraycopy(other.spent, 0, spent, 0, ACTIONS + 1);
            goodLooks = other.goodLooks;
            splices = other.splices;
        }

        private void note(int code, int result, int end) {
            int at = (oldest + size) % LOG_LIMIT;
            codes[at] = code;
            results[at] = result;
            ends[at] = end;
            if (size < LOG_LIMIT) {
                size++;
            } else {
                oldest = (oldest + 1) % LOG_LIMIT;
            }
        }

        private int entry(int index, int what) {
            int at = (oldest + index) % LOG_LIMIT;
            return what == 0 ? codes[at] : what == 1 ? results[at] : ends[at];
        }
    }

    /** All that a snapshot contains: the head, the feeders, the board and what was done. */
    private static final class Machine {
        private final int[] settings = new int[SETTINGS];
        private int spindleCount;
        private final Spindle[] spindles = new Spindle[SPINDLE_LIMIT];
        private int types;
        private final int[] free = new int[TYPE_LIMIT];
        private final Kinds kinds = new Kinds();
        private int feederCount;
        private final Feeder[] feeders = new Feeder[FEEDER_LIMIT];
        private final Board board = new Board();
        private int boardsBegun;
        private final Journal journal = new Journal();
        private int x;
        private int y;
        private int time;
        private int rejectsInRow;
        private boolean halted;

        private Machine() {
            for (int spindle = 0; spindle < SPINDLE_LIMIT; spindle++) {
                spindles[spindle] = new Spindle();
            }
            for (int feeder = 0; feeder < FEEDER_LIMIT; feeder++) {
                feeders[feeder] = new Feeder();
            }
            clear();
        }

        private void clear() {
            System.arraycopy(DEFAULTS, 0, settings, 0, SETTINGS);
            spindleCount = 1;
            for (int spindle = 0; spindle < SPINDLE_LIMIT; spindle++) {
                spindles[spindle].clear();
            }
            types = 0;
            kinds.clear();
            feederCount = 0;
            board.clear();
            boardsBegun = 1;
            journal.clear();
            x = 0;
            y = 0;
            time = 0;
            rejectsInRow = 0;
            halted = false;
        }

        private void copyFrom(Machine other) {
            System.arraycopy(other.settings, 0, settings, 0, SETTINGS);
            spindleCount = other.spindleCount;
            for (int spindle = 0; spindle < spindleCount; spindle++) {
                spindles[spindle].copyFrom(other.spindles[spindle]);
            }
            types = other.types;
            System.arraycopy(other.free, 0, free, 0, TYPE_LIMIT);
            kinds.copyFrom(other.kinds);
            feederCount = other.feederCount;
            for (int feeder = 0; feeder < feederCount; feeder++) {
                feeders[feeder].copyFrom(other.feeders[feeder]);
            }
            board.copyFrom(other.board);
            boardsBegun = other.boardsBegun;
            journal.copyFrom(other.journal);
            x = other.x;
            y = other.y;
            time = other.time;
            rejectsInRow = other.rejectsInRow;
            halted = other.halted;
        }

        private void addType(int nozzles) {
            if (types < TYPE_LIMIT) {
                free[types] = nozzles;
                types++;
            }
        }

        private void addFeeder(int kind, int atX, int parts, int miss) {
            if (feederCount < FEEDER_LIMIT) {
                feeders[feederCount].clear(kind, atX, parts, miss);
                kinds.came[kind] += parts;
                feederCount++;
            }
        }

        private int nearestWith(int kind) {
            int nearest = NONE;
            int least = 0;
            for (int feeder = 0; feeder < feederCount; feeder++) {
                if (feeders[feeder].kind == kind && feeders[feeder].parts > 0) {
                    int distance = Math.abs(feeders[feeder].x - x);
                    if (nearest == NONE || distance < least) {
                        nearest = feeder;
                        least = distance;
                    }
                }
            }
            return nearest;
        }

        private int heldOf(int kind) {
            int held = 0;
            for (int spindle = 0; spindle < spindleCount; spindle++) {
                if (spindles[spindle].held == kind) {
                    held++;
                }
            }
            return held;
        }

        private int inReels(int kind) {
            int parts = 0;
            for (int feeder = 0; feeder < feederCount; feeder++) {
                if (feeders[feeder].kind == kind) {
                    parts += feeders[feeder].allParts();
                }
            }
            return parts;
        }

        private int partsOf(int kind, int what) {
            switch (what) {
                case 0:
                    return kinds.came[kind];
                case 1:
                    return inReels(kind);
                case 2:
                    return heldOf(kind);
                case 3:
                    return kinds.placed[kind];
                case 4:
                    return kinds.rejected[kind];
                case 5:
                    return kinds.lost[kind];
                default:
                    return kinds.away[kind];
            }
        }

        private int missing(int kind, int forBoards) {
            int needed = board.openOf(kind) + (forBoards - 1) * board.boardNeeds(kind);
            return Math.max(0, needed - inReels(kind) - heldOf(kind));
        }

        private int boardsFor(int kind) {
            if (missing(kind, 1) > 0) {
                return 0;
            }
            int perBoard = board.boardNeeds(kind);
            int left = inReels(kind) + heldOf(kind) - board.openOf(kind);
            return perBoard < 1 ? BOARD_LIMIT : Math.min(BOARD_LIMIT, 1 + left / perBoard);
        }

        private boolean isWorn(Spindle spindle) {
            return settings[WEAR_LIMIT] > 0 && spindle.wear >= settings[WEAR_LIMIT];
        }

        /** Does an action that is possible, and returns its result. */
        private int perform(int action, int spindle, int target) {
            Spindle by = spindles[spindle];
            int start = time;
            int result = SUCCESS;
            switch (action) {
                case CHANGE:
                    changeTo(by, target);
                    break;
                case PICK:
                    result = pickFrom(by, feeders[target]);
                    break;
                case LOOK:
                    result = lookAt(by);
                    break;
                case PLACE:
                    putOn(by, spindle, target);
                    break;
                case DISCARD:
                    reject(by);
                    break;
                default:
                    cleanOf(by);
                    break;
            }
            journal.note(codeOf(action, spindle, target), result, time);
            journal.times[action]++;
            journal.spent[action] += time - start;
            return result;
        }

        private void changeTo(Spindle by, int type) {
            goTo(0, 0, settings[CHANGE_TIME]);
            if (by.nozzle != NONE) {
                free[by.nozzle]++;
            }
            free[type]--;
            by.nozzle = type;
            by.wear = 0;
            by.changes++;
        }

        private int pickFrom(Spindle by, Feeder from) {
            goTo(from.x, 0, settings[PICK_TIME]);
            if (from.failsBySplice) {
                from.failsBySplice = false;
                return FAILED;
            }
            int misses = isWorn(by) ? from.miss + settings[WEAR_LOSS] : from.miss;
            boolean fails = draw() < misses;
            by.wear++;
            from.parts--;
            if (fails) {
                from.lost++;
                kinds.lost[from.kind]++;
            } else {
                from.taken++;
                by.held = from.kind;
            }
            journal.splices += from.spliceIfEmpty();
            return fails ? FAILED : SUCCESS;
        }

        private int lookAt(Spindle by) {
            goTo(settings[CAMERA_X], settings[CAMERA_Y], settings[VISION_TIME]);
            by.looks++;
            int drawn = draw();
            if (drawn < settings[GOOD]) {
                by.ready = true;
                journal.goodLooks++;
                rejectsInRow = 0;
                return SUCCESS;
            }
            if (drawn < settings[GOOD] + settings[AGAIN] && by.looks <= settings[RETRIES]) {
                return UNCERTAIN;
            }
            reject(by);
            rejectsInRow++;
            if (settings[ALARM] > 0 && rejectsInRow >= settings[ALARM]) {
                halted = true;
            }
            return REJECTED;
        }

        private void putOn(Spindle by, int spindle, int spot) {
            goTo(board.x[spot], board.y[spot], settings[PLACE_TIME]);
            board.fill(spot, spindle, time);
            kinds.placed[by.held]++;
            by.placed++;
            by.dropPart();
        }

        private void cleanOf(Spindle by) {
            goTo(0, 0, settings[CLEAN_TIME]);
            by.wear = 0;
        }

        private void reject(Spindle by) {
            kinds.rejected[by.held]++;
            by.rejected++;
            by.dropPart();
        }

        private void goTo(int toX, int toY, int ownTime) {
            time += wayTo(toX, toY) + ownTime;
            x = toX;
            y = toY;
        }

        private int wayTo(int toX, int toY) {
            int distance = Math.max(Math.abs(toX - x), Math.abs(toY - y));
            int speed = settings[SPEED];
            return speed < 1 ? distance : (distance + speed - 1) / speed;
        }

        private int draw() {
            settings[SEED] = (int) ((settings[SEED] * 1103515245L + 12345) % 2147483648L);
            return settings[SEED] / 65536 % 100;
        }
    }

    /** Finds the next action of the plan for a machine. */
    private static final class Plan {
        private final Machine machine;
        private int action;
        private int spindle;
        private int target;

        private Plan(Machine ofMachine) {
            machine = ofMachine;
        }

        /** Leaves the next action in the fields; returns false if the plan has ended. */
        private boolean next() {
            if (machine.halted) {
                return false;
            }
            long fillable = machine.board.fillable();
            return findLoad(fillable) || findLook() || findPlace(fillable);
        }

        private int follow() {
            return next() ? machine.perform(action, spindle, target) : NONE;
        }

        private boolean decide(int onAction, int onSpindle, int onTarget) {
            action = onAction;
            spindle = onSpindle;
            target = onTarget;
            return true;
        }

        private boolean findLoad(long fillable) {
            int kinds = kindsToLoad(fillable);
            for (int at = 0; at < machine.spindleCount && kinds != 0; at++) {
                if (machine.spindles[at].held == NONE && findLoadOf(at, kinds)) {
                    return true;
                }
            }
            return false;
        }

        /** Returns the sum of 2^k over the kinds k that are wanted and can be had. */
        private int kindsToLoad(long fillable) {
            int kinds = 0;
            for (int feeder = 0; feeder < machine.feederCount; feeder++) {
                int kind = machine.feeders[feeder].kind;
                int spots = Long.bitCount(fillable & machine.board.ofKind[kind]);
                if (machine.feeders[feeder].parts > 0 && spots > machine.heldOf(kind)) {
                    kinds |= 1 << kind;
                }
            }
            return kinds;
        }

        private boolean findLoadOf(int at, int kinds) {
            Spindle by = machine.spindles[at];
            int[] nozzle = machine.kinds.nozzle;
            for (int kind = 0; kind < machine.kinds.size; kind++) {
                if ((kinds & (1 << kind)) != 0 && nozzle[kind] == by.nozzle) {
                    return machine.isWorn(by) ? decide(CLEAN, at, 0) : decide(PICK, at, machine.nearestWith(kind));
                }
            }
            for (int kind = 0; kind < machine.kinds.size; kind++) {
                if ((kinds & (1 << kind)) != 0 && machine.free[nozzle[kind]] > 0) {
                    return decide(CHANGE, at, nozzle[kind]);
                }
            }
            return false;
        }

        private boolean findLook() {
            for (int at = 0; at < machine.spindleCount; at++) {
                Spindle by = machine.spindles[at];
                if (by.held != NONE && !by.ready) {
                    return decide(LOOK, at, 0);
                }
            }
            return false;
        }

        private boolean findPlace(long fillable) {
            for (int at = 0; at < machine.spindleCount; at++) {
                int kind = machine.spindles[at].held;
                if (kind != NONE) {
                    int spot = nearestSpot(fillable & machine.board.ofKind[kind]);
                    return spot == NONE ? decide(DISCARD, at, 0) : decide(PLACE, at, spot);
                }
            }
            return false;
        }

        private int nearestSpot(long spots) {
            int nearest = NONE;
            int least = 0;
            for (int spot = 0; spot < machine.board.size; spot++) {
                if ((spots & (1L << spot)) != 0) {
                    int way = machine.wayTo(machine.board.x[spot], machine.board.y[spot]);
                    if (nearest == NONE || way < least) {
                        nearest = spot;
                        least = way;
                    }
                }
            }
            return nearest;
        }
    }

    /** Goes on by the plan on a copy of the machine. */
    private static final class Forecast {
        private final Machine present;
        private final Machine ahead;
        private final Plan plan;
        private int actions;
        private int end;

        private Forecast(Machine ofMachine, Machine onCopy) {
            present = ofMachine;
            ahead = onCopy;
            plan = new Plan(onCopy);
        }

        private void begin() {
            ahead.copyFrom(present);
        }

        /** Leaves the number of actions and the time of the end, NONE if there is none in reach, in the fields. */
        private void goOn() {
            actions = 0;
            boolean more = plan.next();
            while (more && actions < AHEAD_LIMIT) {
                ahead.perform(plan.action, plan.spindle, plan.target);
                actions++;
                more = plan.next();
            }
            end = more ? NONE : ahead.time;
        }

        private int actionsUntilEmpty(int feeder) {
            Feeder watched = ahead.feeders[feeder];
            for (int behind = 0; behind <= AHEAD_LIMIT; behind++) {
                if (watched.parts == 0 && watched.waiting == 0) {
                    return behind;
                }
                if (!plan.next()) {
                    return NONE;
                }
                ahead.perform(plan.action, plan.spindle, plan.target);
            }
            return NONE;
        }
    }

    /** Reads a description from left to right into a machine; the first error ends it. */
    private static final class Description {
        private final byte[] text;
        private final Machine machine;
        private int length;
        private int at;
        private int wordAt;
        private int numberAt;
        private int error;
        private int errorAt;

        private Description(byte[] ofText, Machine intoMachine) {
            text = ofText;
            machine = intoMachine;
        }

        private void readText(int bytes) {
            length = Math.min(bytes, text.length);
            at = 0;
            error = 0;
            errorAt = 0;
            machine.clear();
            readMachine();
            for (int statement = 0; statement < length && error == 0 && !isAtEnd(); statement++) {
                readSemicolon();
                readStatement();
            }
        }

        private void fail(int withError, int position) {
            if (error == 0) {
                error = withError;
                errorAt = position;
            }
        }

        private boolean isAtEnd() {
            while (at < length && text[at] == ' ') {
                at++;
            }
            return at >= length;
        }

        private boolean isAtDigit() {
            return !isAtEnd() && text[at] >= '0' && text[at] <= '9';
        }

        private void readSemicolon() {
            if (isAtEnd() || text[at] != ';') {
                fail(1, at);
            } else {
                at++;
            }
        }

        private void readWord() {
            wordAt = isAtEnd() ? length : at;
            while (at < length && text[at] >= 'a' && text[at] <= 'z') {
                at++;
            }
        }

        private boolean isWord(String word) {
            if (at - wordAt != word.length()) {
                return false;
            }
            for (int i = 0; i < word.length(); i++) {
                if (text[wordAt + i] != word.charAt(i)) {
                    return false;
                }
            }
            return true;
        }

        private int readNumber(int least, int most) {
            numberAt = isAtEnd() ? length : at;
            if (!isAtDigit()) {
                fail(1, numberAt);
                return least;
            }
            int number = 0;
            while (at < length && text[at] >= '0' && text[at] <= '9') {
                // Beyond a million nothing is in range, so that a long run of digits need not be counted out.
                number = Math.min(10 * number + text[at] - '0', 1000000);
                at++;
            }
            if (number < least || number > most) {
                fail(2, numberAt);
            }
            return number;
        }

        private void readMachine() {
            readWord();
            if (!isWord("machine")) {
                fail(1, wordAt);
                return;
            }
            int spindles = readNumber(1, SPINDLE_LIMIT);
            if (error == 0) {
                machine.spindleCount = spindles;
                readSettings(SPEED, SPEED);
            }
        }

        private void readStatement() {
            if (error != 0) {
                return;
            }
            readWord();
            if (isWord("times")) {
                readSettings(CHANGE_TIME, PLACE_TIME);
            } else if (isWord("vision")) {
                readSettings(GOOD, RETRIES);
            } else if (isWord("camera")) {
                readSettings(CAMERA_X, CAMERA_Y);
            } else if (isWord("seed")) {
                readSettings(SEED, SEED);
            } else if (isWord("alarm")) {
                readSettings(ALARM, ALARM);
            } else if (isWord("wear")) {
                readSettings(WEAR_LIMIT, CLEAN_TIME);
            } else if (isWord("nozzles")) {
                readNozzles();
            } else if (isWord("kind")) {
                readKind();
            } else if (isWord("feeder")) {
                readFeeder();
            } else if (isWord("spot")) {
                readSpot();
            } else if (isWord("before")) {
                readBefore();
            } else {
                fail(1, wordAt);
            }
        }

        private void readSettings(int from, int to) {
            for (int what = from; what <= to && error == 0; what++) {
                int most = what == AGAIN ? PERCENT_MOST - machine.settings[GOOD] : MOST[what];
                machine.settings[what] = readNumber(LEAST[what], most);
            }
        }

        private void readNozzles() {
            for (int count = 0; count <= TYPE_LIMIT && error == 0 && (count == 0 || isAtDigit()); count++) {
                if (isAtDigit() && machine.types == TYPE_LIMIT) {
                    fail(3, at);
                    return;
                }
                int nozzles = readNumber(1, NOZZLES_MOST);
                if (error == 0) {
                    machine.addType(nozzles);
                }
            }
        }

        private void readKind() {
            if (machine.kinds.size == KIND_LIMIT) {
                fail(3, wordAt);
                return;
            }
            int nozzle = readNumber(0, machine.types - 1);
            if (error == 0) {
                machine.kinds.add(nozzle);
            }
        }

        private void readFeeder() {
            if (machine.feederCount == FEEDER_LIMIT) {
                fail(3, wordAt);
                return;
            }
            int kind = readNumber(0, machine.kinds.size - 1);
            int x = error == 0 ? readNumber(0, COORDINATE_MOST) : 0;
            int parts = error == 0 ? readNumber(0, PARTS_MOST) : 0;
            int miss = error == 0 ? readNumber(0, PERCENT_MOST) : 0;
            if (error == 0) {
                machine.addFeeder(kind, x, parts, miss);
            }
        }

        private void readSpot() {
            if (machine.board.size == SPOT_LIMIT) {
                fail(3, wordAt);
                return;
            }
            int kind = readNumber(0, machine.kinds.size - 1);
            int x = error == 0 ? readNumber(0, COORDINATE_MOST) : 0;
            int y = error == 0 ? readNumber(0, COORDINATE_MOST) : 0;
            if (error == 0) {
                machine.board.addSpot(kind, x, y);
            }
        }

        private void readBefore() {
            Board board = machine.board;
            if (board.pairs == PAIR_LIMIT) {
                fail(3, wordAt);
                return;
            }
            int first = readNumber(0, board.size - 1);
            int second = error == 0 ? readNumber(0, board.size - 1) : 0;
            if (error != 0) {
                return;
            }
            if (board.wouldCircle(first, second)) {
                fail(4, numberAt);
            } else if (board.pairIndex(first, second) == NONE) {
                board.addPair(first, second);
            }
        }
    }
}
