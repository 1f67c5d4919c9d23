import java.util.Arrays;
import java.util.NoSuchElementException;

/**
 * A player of music for games: pieces, joints and prices are told first, then
 * moods are asked for while time goes by. The document's numbered promises say
 * what every call answers.
 */
public final class MoodPlayer {
    public static final int NONE = -1;

    private static final int MAX_PIECES = 20;
    private static final int MAX_JOINTS = 100;
    private static final int MAX_BEATS = 64;
    private static final int SHORTEST_BEAT = 24;
    private static final int LONGEST_BEAT = 2400;
    private static final int MOODS = 8;
    private static final int MAX_MOST = 9;
    private static final int MAX_COST = 99;
    private static final int MAX_TOP = 8;
    private static final int MAX_LEVELS = 16;
    private static final int MAX_WAITING = 4;
    private static final int MAX_EVENTS = 300;
    private static final int MAX_GO = 20000;
    private static final int SLOTS = 4;

    private static final int LOOP = 0;
    private static final int BRIDGE = 1;
    private static final int LAYER = 2;
    private static final int STING = 3;

    private static final int PRICES = 2;
    private static final int PRICE_AGAIN = 0;
    private static final int PRICE_LATE = 1;
    private static final int TICK = 24;

    /** The step AGAIN stands behind all joints' numbers. */
    private static final int STEP_AGAIN = 100;
    /** Each step of the way leads to a beginning, and to none twice. */
    private static final int MAX_STEPS = MAX_PIECES;
    /** Behind every time that 512 calls can come to. */
    private static final long NEVER = 1L << 62;

    private static final int PIECE_PLAYED = 0;
    private static final int JOINT_BY_WAY = 1;
    private static final int JOINT_ELSE = 2;
    private static final int WENT_AGAIN = 3;
    private static final int MOOD_MET = 4;
    private static final int STING_BEGAN = 5;
    private static final int STING_OVER = 6;
    private static final int FELL_SILENT = 7;

    private final Score score = new Score();
    private final State state = new State();
    private final State[] slots = new State[SLOTS];
    private final Diary diary = new Diary(state);
    private final Table times = new Table();
    private final Guide guide = new Guide(score, state);

    public MoodPlayer() {
        for (int slot = 0; slot < SLOTS; slot++) {
            slots[slot] = new State();
        }
    }

    // ---- pieces, joints, prices ----

    public int piece(int kind, int beats, int beat, int moods, int most) {
        int number = score.addPiece(kind, beats, beat, moods, most);
        if (number != NONE) {
            guide.scoreChanged();
        }
        return number;
    }

    public int joint(int from, int behind, int to, int cost) throws NoSuchElementException {
        checkPiece(from);
        checkPiece(to);
        int number = score.addJoint(from, behind, to, cost);
        if (number != NONE) {
            guide.scoreChanged();
        }
        return number;
    }

    public int price(int what, int v) throws IllegalArgumentException {
        if (what < 0 || what >= PRICES || v < 0 || v > MAX_COST) {
            throw new IllegalArgumentException("no such price");
        }
        int was = score.prices[what];
        score.prices[what] = v;
        guide.scoreChanged();
        return was;
    }

    // ---- what plays, and the mood that is asked for ----

    public boolean play(int piece) throws NoSuchElementException {
        checkPiece(piece);
        if (!score.canPlay(piece)) {
            return false;
        }
        diary.add(PIECE_PLAYED, piece);
        begin(piece, 1);
        guide.findWay();
        return true;
    }

    public int ask(int mood) throws IllegalArgumentException {
        checkMood(mood);
        state.mood = mood;
        if (meetMood()) {
            return 0;
        }
        guide.findWay();
        return stepsLeft();
    }

    public int leave() {
        int was = state.mood;
        state.mood = NONE;
        guide.forget();
        return was;
    }

    public int way(int i) throws NoSuchElementException {
        if (i == NONE) {
            return stepsLeft();
        }
        if (i < 0 || i >= guide.left()) {
            throw new NoSuchElementException("no such step");
        }
        return guide.stepAt(i);
    }

    public long cost() {
        return guide.costLeft();
    }

    public long reach(int piece, int mood) throws NoSuchElementException, IllegalArgumentException {
        checkPlayable(piece);
        checkMood(mood);
        times.fill(score, mood, 0, 1);
        return times.least[piece];
    }

    public int lacks(int piece, int mood) throws NoSuchElementException, IllegalArgumentException {
        checkPlayable(piece);
        checkMood(mood);
        times.fill(score, mood, 0, 1);
        int withMood = score.firstWithMood(mood);
        if (times.least[piece] != NONE || withMood == NONE) {
            return NONE;
        }
        return 100 * score.firstComeTo(piece) + withMood;
    }

    // ---- layers and stings ----

    public int layer(int piece, int top) throws NoSuchElementException {
        checkPiece(piece);
        if (score.kind[piece] != LAYER || top < 0 || top > MAX_TOP) {
            return NONE;
        }
        int was = state.tops[piece];
        state.tops[piece] = top;
        return was;
    }

    public int sting(int piece) throws NoSuchElementException {
        checkPiece(piece);
        if (score.kind[piece] != STING || state.waits >= MAX_WAITING) {
            return NONE;
        }
        state.waiting[state.waits] = piece;
        state.waits++;
        return state.waits;
    }

    // ---- time ----

    public long go(int n) throws IllegalArgumentException {
        if (n < 0 || n > MAX_GO) {
            throw new IllegalArgumentException("n is not 0 to 20000");
        }
        long end = state.time + n;
        // Each moment is later than the one before, so n of them are the most.
        for (int moments = 0; moments <= n; moments++) {
            long next = nextMoment();
            if (next > end) {
                break;
            }
            state.time = next;
            if (state.sounds != NONE && state.soundsUntil == next) {
                endSting();
            }
            if (state.plays != NONE && beatEnd() == next) {
                endBeat();
            }
        }
        state.time = end;
        return end;
    }

    // ---- what can be looked at ----

    public int now(int what) throws NoSuchElementException {
        switch (what) {
            case 0: return state.plays;
            case 1: return state.done;
            case 2: return state.turns;
            case 3: return state.plays == NONE ? 0 : (int) state.beatOver();
            case 4: return state.mood;
            case 5: return state.sounds;
            case 6: return state.waits;
            case 7: return state.levelsTogether();
            case 8: return diary.count;
            case 9: return score.pieces;
            case 10: return score.joints;
            default: throw new NoSuchElementException("no such what");
        }
    }

    public int level(int piece) throws NoSuchElementException {
        checkPiece(piece);
        return state.levels[piece];
    }

    public long log(int i, int what) throws NoSuchElementException {
        if (i < 0 || i >= diary.count || what < 0 || what > 2) {
            throw new NoSuchElementException("no such event");
        }
        return diary.look(i, what);
    }

    // ---- slots ----

    public boolean keep(int slot) throws IllegalArgumentException {
        State kept = slotAt(slot);
        boolean was = kept.filled;
        kept.copyFrom(state);
        kept.filled = true;
        return was;
    }

    public boolean goOn(int slot) throws IllegalArgumentException {
        State kept = slotAt(slot);
        if (!kept.filled) {
            return false;
        }
        state.copyFrom(kept);
        guide.findWay();
        return true;
    }

    // ---- checks ----

    private void checkPiece(int piece) {
        if (!score.isPiece(piece)) {
            throw new NoSuchElementException("no such piece");
        }
    }

    private void checkPlayable(int piece) {
        if (!score.canPlay(piece)) {
            throw new NoSuchElementException("no such loop or bridge");
        }
    }

    private void checkMood(int mood) {
        if (mood < 0 || mood >= MOODS) {
            throw new IllegalArgumentException("no such mood");
        }
    }

    private State slotAt(int slot) {
        if (slot < 0 || slot >= SLOTS || slots[slot] == null) {
            throw new IllegalArgumentException("no such slot");
        }
        return slots[slot];
    }

    // ---- beat by beat ----

    private int stepsLeft() {
        int left = guide.left();
        return left == 0 ? NONE : left;
    }

    private long beatEnd() {
        return state.beatBegan + score.beat[state.plays];
    }

    private long nextMoment() {
        long next = NEVER;
        if (state.plays != NONE) {
            next = beatEnd();
        }
        if (state.sounds != NONE) {
            next = Math.min(next, state.soundsUntil);
        }
        return next;
    }

    private void endBeat() {
        state.done++;
        state.beatBegan = state.time;
        boolean last = state.done >= score.beats[state.plays];
        int step = guide.stepAt(0);
        if (isDue(step, last)) {
            guide.stepTaken();
            takeStep(step, JOINT_BY_WAY);
        } else if (last) {
            endPiece();
        }
        moveLayers();
        beginSting();
    }

    private boolean isDue(int step, boolean last) {
        if (step == NONE || step == STEP_AGAIN) {
            return step == STEP_AGAIN && last;
        }
        return score.behind[step] == state.done;
    }

    private void endPiece() {
        int step = stepAtEnd();
        if (step == NONE) {
            fallSilent();
        } else {
            takeStep(step, JOINT_ELSE);
        }
        guide.findWay();
    }

    /** What follows the last beat without a way; NONE: silence. */
    private int stepAtEnd() {
        int piece = state.plays;
        int joint = score.cheapestAtEnd(piece);
        boolean mayTurn = state.turns < score.most[piece] || joint == NONE;
        return score.kind[piece] == LOOP && mayTurn ? STEP_AGAIN : joint;
    }

    private void takeStep(int step, int whatOfJoint) {
        int before = state.plays;
        int next = before;
        if (step == STEP_AGAIN) {
            diary.add(WENT_AGAIN, before);
        } else {
            diary.add(whatOfJoint, step);
            next = score.to[step];
        }
        begin(next, next == before ? state.turns + 1 : 1);
    }

    private void begin(int piece, int turns) {
        state.plays = piece;
        state.turns = turns;
        state.done = 0;
        state.beatBegan = state.time;
        meetMood();
    }

    /** Whether an open mood is met by what plays. */
    private boolean meetMood() {
        if (state.plays == NONE || state.mood == NONE || !score.hasMood(state.plays, state.mood)) {
            return false;
        }
        diary.add(MOOD_MET, state.mood);
        state.mood = NONE;
        guide.forget();
        return true;
    }

    private void fallSilent() {
        diary.add(FELL_SILENT, state.plays);
        state.plays = NONE;
        state.turns = 0;
        state.done = 0;
    }

    private void moveLayers() {
        if (state.plays == NONE) {
            Arrays.fill(state.levels, 0);
            return;
        }
        int together = state.levelsTogether();
        for (int layer = 0; layer < score.pieces; layer++) {
            if (score.kind[layer] == LAYER && score.isMultiple(state.done, layer)) {
                together += state.moveLevel(layer, together);
            }
        }
    }

    private void beginSting() {
        if (state.plays == NONE || state.sounds != NONE || state.waits == 0) {
            return;
        }
        int first = state.waiting[0];
        if (score.beats[state.plays] - state.done < score.beats[first]) {
            return;
        }
        state.shiftWaiting();
        state.sounds = first;
        state.soundsUntil = state.time + score.length(first);
        diary.add(STING_BEGAN, first);
    }

    private void endSting() {
        diary.add(STING_OVER, state.sounds);
        state.sounds = NONE;
    }

    /** The pieces, joints and prices: what no slot keeps. */
    private static final class Score {
        final int[] kind = new int[MAX_PIECES];
        final int[] beats = new int[MAX_PIECES];
        final int[] beat = new int[MAX_PIECES];
        final int[] moods = new int[MAX_PIECES];
        final int[] most = new int[MAX_PIECES];
        int pieces;
        final int[] from = new int[MAX_JOINTS];
        final int[] behind = new int[MAX_JOINTS];
        final int[] to = new int[MAX_JOINTS];
        final int[] cost = new int[MAX_JOINTS];
        int joints;
        final int[] prices = new int[PRICES];

        Score() {
            prices[PRICE_AGAIN] = 10;
            prices[PRICE_LATE] = 1;
        }

        int addPiece(int itsKind, int itsBeats, int itsBeat, int itsMoods, int itsMost) {
            int allMoods = itsKind == LOOP || itsKind == BRIDGE ? (1 << MOODS) - 1 : 0;
            boolean asTold = itsKind >= LOOP && itsKind <= STING
                && itsBeats >= 1 && itsBeats <= MAX_BEATS
                && itsBeat >= SHORTEST_BEAT && itsBeat <= LONGEST_BEAT
                && itsMoods >= 0 && itsMoods <= allMoods
                && itsMost >= 1 && itsMost <= MAX_MOST;
            if (!asTold || pieces >= MAX_PIECES) {
                return NONE;
            }
            kind[pieces] = itsKind;
            beats[pieces] = itsBeats;
            beat[pieces] = itsBeat;
            moods[pieces] = itsMoods;
            most[pieces] = itsMost;
            pieces++;
            return pieces - 1;
        }

        int addJoint(int itsFrom, int itsBehind, int itsTo, int itsCost) {
            boolean asTold = canPlay(itsFrom) && canPlay(itsTo)
                && itsBehind >= 1 && itsBehind <= beats[itsFrom]
                && itsCost >= 0 && itsCost <= MAX_COST;
            if (!asTold || joints >= MAX_JOINTS || isJoint(itsFrom, itsBehind, itsTo)) {
                return NONE;
            }
            from[joints] = itsFrom;
            behind[joints] = itsBehind;
            to[joints] = itsTo;
            cost[joints] = itsCost;
            joints++;
            return joints - 1;
        }

        boolean isPiece(int number) {
            return number >= 0 && number < pieces;
        }

        boolean canPlay(int number) {
            return isPiece(number) && (kind[number] == LOOP || kind[number] == BRIDGE);
        }

        boolean hasMood(int piece, int mood) {
            return (moods[piece] >> mood & 1) != 0;
        }

        boolean isMultiple(int done, int piece) {
            return beats[piece] > 0 && done % beats[piece] == 0;
        }

        long length(int piece) {
            return (long) beats[piece] * beat[piece];
        }

        /** The time from the beginning of a joint's piece to the joint. */
        long timeTo(int joint) {
            return (long) behind[joint] * beat[from[joint]];
        }

        int cheapestAtEnd(int piece) {
            int best = NONE;
            for (int joint = 0; joint < joints; joint++) {
                boolean there = from[joint] == piece && behind[joint] == beats[piece];
                if (there && (best == NONE || cost[joint] < cost[best])) {
                    best = joint;
                }
            }
            return best;
        }

        int firstWithMood(int mood) {
            for (int piece = 0; piece < pieces; piece++) {
                if (hasMood(piece, mood)) {
                    return piece;
                }
            }
            return NONE;
        }

        /** The least piece that can be come to from a piece's beginning. */
        int firstComeTo(int piece) {
            int seen = 1 << piece;
            boolean more = true;
            for (int round = 0; round < pieces && more; round++) {
                int before = seen;
                for (int joint = 0; joint < joints; joint++) {
                    if ((seen >> from[joint] & 1) != 0) {
                        seen |= 1 << to[joint];
                    }
                }
                more = seen != before;
            }
            int first = 0;
            while (first < piece && (seen >> first & 1) == 0) {
                first++;
            }
            return first;
        }

        private boolean isJoint(int itsFrom, int itsBehind, int itsTo) {
            for (int joint = 0; joint < joints; joint++) {
                if (from[joint] == itsFrom && behind[joint] == itsBehind && to[joint] == itsTo) {
                    return true;
                }
            }
            return false;
        }
    }

    /** All that a slot keeps; the way is not among it, it is found anew. */
    private static final class State {
        boolean filled;
        long time;
        int plays = NONE;
        int done;
        int turns;
        long beatBegan;
        int mood = NONE;
        final int[] tops = new int[MAX_PIECES];
        final int[] levels = new int[MAX_PIECES];
        final int[] waiting = new int[MAX_WAITING];
        int waits;
        int sounds = NONE;
        long soundsUntil;

        void copyFrom(State other) {
            time = other.time;
            plays = other.plays;
            done = other.done;
            turns = other.turns;
            beatBegan = other.beatBegan;
            mood = other.mood;
            System.arraycopy(other.tops, 0, tops, 0, MAX_PIECES);
            System.arraycopy(other.levels, 0, levels, 0, MAX_PIECES);
            System.arraycopy(other.waiting, 0, waiting, 0, MAX_WAITING);
            waits = other.waits;
            sounds = other.sounds;
            soundsUntil = other.soundsUntil;
        }

        long beatOver() {
            return time - beatBegan;
        }

        int levelsTogether() {
            int sum = 0;
            for (int piece = 0; piece < MAX_PIECES; piece++) {
                sum += levels[piece];
            }
            return sum;
        }

        /** By how much the level of a layer has changed. */
        int moveLevel(int layer, int together) {
            int change = 0;
            if (tops[layer] == 0) {
                change = levels[layer] > 0 ? -1 : 0;
            } else if (levels[layer] < tops[layer] && together < MAX_LEVELS) {
                change = 1;
            }
            levels[layer] += change;
            return change;
        }

        void shiftWaiting() {
            waits--;
            for (int i = 0; i < waits; i++) {
                waiting[i] = waiting[i + 1];
            }
        }
    }

    /** THE LOG: a ring, so that the eldest event makes room for a new one. */
    private static final class Diary {
        private final State state;
        private final long[] when = new long[MAX_EVENTS];
        private final int[] whats = new int[MAX_EVENTS];
        private final int[] numbers = new int[MAX_EVENTS];
        private int eldest;
        int count;

        Diary(State itsState) {
            state = itsState;
        }

        void add(int what, int number) {
            int at = (eldest + count) % MAX_EVENTS;
            when[at] = state.time;
            whats[at] = what;
            numbers[at] = number;
            if (count < MAX_EVENTS) {
                count++;
            } else {
                eldest = (eldest + 1) % MAX_EVENTS;
            }
        }

        long look(int i, int what) {
            int at = (eldest + i) % MAX_EVENTS;
            if (what == 0) {
                return when[at];
            }
            return what == 1 ? whats[at] : numbers[at];
        }
    }

    /** From each piece's beginning to a mood: the least cost and its fewest steps. */
    private static final class Table {
        final long[] least = new long[MAX_PIECES];
        final int[] steps = new int[MAX_PIECES];

        void fill(Score score, int mood, int perCost, int perTime) {
            for (int piece = 0; piece < score.pieces; piece++) {
                least[piece] = score.hasMood(piece, mood) ? 0 : NONE;
                steps[piece] = 0;
            }
            // AGAIN is left out: from a beginning it leads to that beginning, at a cost.
            boolean more = true;
            for (int round = 0; round < score.pieces && more; round++) {
                more = improve(score, perCost, perTime);
            }
        }

        private boolean improve(Score score, int perCost, int perTime) {
            boolean improved = false;
            for (int joint = 0; joint < score.joints; joint++) {
                int from = score.from[joint];
                int to = score.to[joint];
                long cost = least[to] + perCost * score.cost[joint] + perTime * score.timeTo(joint);
                if (least[to] != NONE && isBetter(cost, steps[to] + 1, least[from], steps[from])) {
                    least[from] = cost;
                    steps[from] = steps[to] + 1;
                    improved = true;
                }
            }
            return improved;
        }

        static boolean isBetter(long cost, int steps, long thanCost, int thanSteps) {
            return thanCost == NONE || cost < thanCost || cost == thanCost && steps < thanSteps;
        }
    }

    /** Finds THE WAY and holds what is left of it. */
    private static final class Guide {
        private final Score score;
        private final State state;
        private final Table table = new Table();
        /** The mood that the table is for; NONE: it must be filled anew. */
        private int tableMood = NONE;
        private final int[] steps = new int[MAX_STEPS];
        private int length;
        private int taken;

        Guide(Score itsScore, State itsState) {
            score = itsScore;
            state = itsState;
        }

        /** How many steps are left; 0: there is no way. */
        int left() {
            return length - taken;
        }

        /** The i-th step that is left; NONE: there is none such. */
        int stepAt(int i) {
            int at = taken + i;
            return at >= 0 && at < length ? steps[at] : NONE;
        }

        void stepTaken() {
            taken++;
        }

        void forget() {
            length = 0;
            taken = 0;
        }

        void scoreChanged() {
            tableMood = NONE;
            findWay();
        }

        /** What is left of the best way is the best way from here on, so the table tells its cost. */
        long costLeft() {
            int step = stepAt(0);
            return step == NONE ? NONE : costBy(step);
        }

        void findWay() {
            forget();
            if (state.plays == NONE || state.mood == NONE) {
                return;
            }
            if (tableMood != state.mood) {
                table.fill(score, state.mood, TICK, score.prices[PRICE_LATE]);
                tableMood = state.mood;
            }
            int step = firstStep();
            if (step != NONE) {
                addStep(step);
                followTable(pieceBehind(step));
            }
        }

        private void addStep(int step) {
            if (length < MAX_STEPS) {
                steps[length] = step;
                length++;
            }
        }

        /** The best step out of what plays, where some beats may be done. */
        private int firstStep() {
            int best = NONE;
            long bestCost = NONE;
            int bestSteps = 0;
            for (int number = 0; number <= score.joints; number++) {
                int step = number < score.joints ? number : STEP_AGAIN;
                if (!isOpen(step)) {
                    continue;
                }
                long cost = costBy(step);
                int itsSteps = table.steps[pieceBehind(step)];
                if (cost != NONE && Table.isBetter(cost, itsSteps, bestCost, bestSteps)) {
                    best = step;
                    bestCost = cost;
                    bestSteps = itsSteps;
                }
            }
            return best;
        }

        private boolean isOpen(int step) {
            if (step == STEP_AGAIN) {
                return score.kind[state.plays] == LOOP;
            }
            return score.from[step] == state.plays && score.behind[step] > state.done;
        }

        private int pieceBehind(int step) {
            return step == STEP_AGAIN ? state.plays : score.to[step];
        }

        /** The cost of the best way that begins with an open step; NONE: there is none. */
        private long costBy(int step) {
            long rest = table.least[pieceBehind(step)];
            if (rest == NONE) {
                return NONE;
            }
            int piece = state.plays;
            boolean again = step == STEP_AGAIN;
            int own = again ? score.prices[PRICE_AGAIN] : score.cost[step];
            int behind = again ? score.beats[piece] : score.behind[step];
            long time = (long) (behind - state.done) * score.beat[piece] - state.beatOver();
            return rest + TICK * own + score.prices[PRICE_LATE] * time;
        }

        private void followTable(int beginning) {
            int piece = beginning;
            for (int step = 1; step < MAX_STEPS && table.steps[piece] > 0; step++) {
                int joint = firstOnTable(piece);
                if (joint == NONE) {
                    return;
                }
                addStep(joint);
                piece = score.to[joint];
            }
        }

        /** The least joint that keeps to the least cost and the fewest steps. */
        private int firstOnTable(int piece) {
            for (int joint = 0; joint < score.joints; joint++) {
                int to = score.to[joint];
                long own = TICK * score.cost[joint] + score.prices[PRICE_LATE] * score.timeTo(joint);
                if (score.from[joint] == piece && table.least[to] != NONE
                    && table.least[to] + own == table.least[piece]
                    && table.steps[to] + 1 == table.steps[piece]) {
                    return joint;
                }
            }
            return NONE;
        }
    }
}
