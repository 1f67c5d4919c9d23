import java.util.ArrayList;
import java.util.Arrays;
import java.util.List;
import java.util.NoSuchElementException;
import java.util.Random;

/**
 * Runs of calls drawn from fixed seeds, answered by MoodPlayer and by a plain model that
 * lets time go by one 24th after another and finds THE WAY by trying all rows of steps.
 * No run has more calls than the document promises answers for.
 */
public final class ModelTest {
    private static final int NONE = -1;
    private static final long NO_ELEMENT = Long.MIN_VALUE;
    private static final long BAD_ARGUMENT = Long.MIN_VALUE + 1;
    private static final int MOST_CALLS = 512;
    /** As many calls as a step with its glances, and the last look, may take. */
    private static final int CALLS_LEFT_FOR_THE_LOOK = 100;
    private static final int GLANCES = 4;
    private static int wrong = 0;

    public static void main(String[] args) {
        for (int seed = 0; seed < 4000 && wrong < 10; seed++) {
            new Run(seed).go();
        }
        if (wrong > 0) {
            System.exit(1);
        }
        System.out.println("the model and the class answer alike");
    }

    /** What is kept in a slot. */
    private static final class Kept {
        long time;
        int plays = NONE;
        int done;
        int turns;
        int over;
        int mood = NONE;
        int[] top = new int[20];
        int[] level = new int[20];
        List<Integer> waiting = new ArrayList<>();
        int sounds = NONE;
        long soundsLeft;

        Kept copy() {
            Kept k = new Kept();
            k.time = time;
            k.plays = plays;
            k.done = done;
            k.turns = turns;
            k.over = over;
            k.mood = mood;
            k.top = top.clone();
            k.level = level.clone();
            k.waiting = new ArrayList<>(waiting);
            k.sounds = sounds;
            k.soundsLeft = soundsLeft;
            return k;
        }
    }

    private static final class Model {
        final List<int[]> pieces = new ArrayList<>();
        final List<int[]> joints = new ArrayList<>();
        final int[] price = {10, 1};
        final List<long[]> log = new ArrayList<>();
        final Kept[] slots = new Kept[4];
        Kept s = new Kept();
        List<Integer> way;
        long bestCost;
        List<Integer> bestRow;

        int kind(int p) { return pieces.get(p)[0]; }
        int beats(int p) { return pieces.get(p)[1]; }
        int beat(int p) { return pieces.get(p)[2]; }
        boolean has(int p, int mood) { return (pieces.get(p)[3] & 1 << mood) != 0; }
        int most(int p) { return pieces.get(p)[4]; }
        boolean exists(int p) { return p >= 0 && p < pieces.size(); }
        boolean playable(int p) { return exists(p) && kind(p) < 2; }

        void event(int what, int number) {
            log.add(new long[] {s.time, what, number});
            if (log.size() > 300) {
                log.remove(0);
            }
        }

        void search() {
            way = null;
            if (s.plays == NONE || s.mood == NONE) {
                return;
            }
            bestRow = null;
            extend(new ArrayList<>(), s.plays, s.done, s.over, 0);
            way = bestRow;
        }

        /** All rows that go on behind a row; the cost up to here is given. */
        void extend(List<Integer> row, int piece, int done, int over, long cost) {
            if (bestRow != null && cost > bestCost) {
                return;
            }
            if (has(piece, s.mood)) {
                if (bestRow == null || better(cost, row)) {
                    bestCost = cost;
                    bestRow = new ArrayList<>(row);
                }
                return;
            }
            if (row.size() > pieces.size()) {
                return;
            }
            for (int step = 0; step <= 100; step++) {
                boolean again = step == 100 && kind(piece) == 0;
                boolean joint = step < joints.size() && joints.get(step)[0] == piece && joints.get(step)[1] > done;
                if (!again && !joint) {
                    continue;
                }
                int behind = again ? beats(piece) : joints.get(step)[1];
                int toll = again ? price[0] : joints.get(step)[3];
                long time = (behind - done) * (long) beat(piece) - over;
                row.add(step);
                extend(row, again ? piece : joints.get(step)[2], 0, 0, cost + 24L * toll + price[1] * time);
                row.remove(row.size() - 1);
            }
        }

        boolean better(long cost, List<Integer> row) {
            if (cost != bestCost) {
                return cost < bestCost;
            }
            if (row.size() != bestRow.size()) {
                return row.size() < bestRow.size();
            }
            for (int i = 0; i < row.size(); i++) {
                if (!row.get(i).equals(bestRow.get(i))) {
                    return row.get(i) < bestRow.get(i);
                }
            }
            return false;
        }

        void meet() {
            if (s.mood != NONE && s.plays != NONE && has(s.plays, s.mood)) {
                event(4, s.mood);
                s.mood = NONE;
                way = null;
            }
        }

        void begin(int piece, int turns) {
            s.plays = piece;
            s.turns = turns;
            s.done = 0;
            s.over = 0;
            meet();
        }

        void tick() {
            s.time++;
            if (s.sounds != NONE) {
                s.soundsLeft--;
                if (s.soundsLeft == 0) {
                    event(6, s.sounds);
                    s.sounds = NONE;
                }
            }
            if (s.plays == NONE) {
                return;
            }
            s.over++;
            if (s.over == beat(s.plays)) {
                s.over = 0;
                s.done++;
                pass();
                layers();
                stings();
            }
        }

        void pass() {
            int p = s.plays;
            boolean end = s.done == beats(p);
            if (way != null && way.get(0) < 100 && joints.get(way.get(0))[1] == s.done) {
                int j = way.remove(0);
                event(1, j);
                int to = joints.get(j)[2];
                begin(to, to == p ? s.turns + 1 : 1);
                return;
            }
            if (!end) {
                return;
            }
            if (way != null && way.get(0) == 100) {
                way.remove(0);
                event(3, p);
                begin(p, s.turns + 1);
                return;
            }
            int least = NONE;
            for (int j = joints.size() - 1; j >= 0; j--) {
                int[] x = joints.get(j);
                if (x[0] == p && x[1] == s.done && (least == NONE || x[3] <= joints.get(least)[3])) {
                    least = j;
                }
            }
            if (kind(p) == 0 && (s.turns < most(p) || least == NONE)) {
                event(3, p);
                begin(p, s.turns + 1);
            } else if (least != NONE) {
                event(2, least);
                int to = joints.get(least)[2];
                begin(to, to == p ? s.turns + 1 : 1);
            } else {
                event(7, p);
                s.plays = NONE;
                s.done = 0;
                s.turns = 0;
            }
            search();
        }

        void layers() {
            if (s.plays == NONE) {
                Arrays.fill(s.level, 0);
                return;
            }
            for (int p = 0; p < pieces.size(); p++) {
                if (kind(p) != 2 || s.done % beats(p) != 0) {
                    continue;
                }
                if (s.top[p] > 0) {
                    if (s.level[p] < s.top[p] && Arrays.stream(s.level).sum() < 16) {
                        s.level[p]++;
                    }
                } else if (s.level[p] > 0) {
                    s.level[p]--;
                }
            }
        }

        void stings() {
            if (s.plays == NONE || s.sounds != NONE || s.waiting.isEmpty()) {
                return;
            }
            int first = s.waiting.get(0);
            if (beats(s.plays) - s.done >= beats(first)) {
                s.waiting.remove(0);
                s.sounds = first;
                s.soundsLeft = (long) beats(first) * beat(first);
                event(5, first);
            }
        }

        long piece(int kind, int beats, int beat, int moods, int most) {
            if (pieces.size() == 20 || kind < 0 || kind > 3 || beats < 1 || beats > 64 || beat < 24 || beat > 2400
                || moods < 0 || moods > 255 || kind > 1 && moods != 0 || most < 1 || most > 9) {
                return NONE;
            }
            pieces.add(new int[] {kind, beats, beat, moods, most});
            search();
            return pieces.size() - 1;
        }

        long joint(int from, int behind, int to, int cost) {
            if (!exists(from) || !exists(to)) {
                return NO_ELEMENT;
            }
            if (joints.size() == 100 || !playable(from) || !playable(to) || behind < 1 || behind > beats(from)
                || cost < 0 || cost > 99) {
                return NONE;
            }
            for (int[] j : joints) {
                if (j[0] == from && j[1] == behind && j[2] == to) {
                    return NONE;
                }
            }
            joints.add(new int[] {from, behind, to, cost});
            search();
            return joints.size() - 1;
        }

        long price(int what, int v) {
            if (what < 0 || what > 1 || v < 0 || v > 99) {
                return BAD_ARGUMENT;
            }
            int was = price[what];
            price[what] = v;
            search();
            return was;
        }

        long play(int p) {
            if (!exists(p)) {
                return NO_ELEMENT;
            }
            if (!playable(p)) {
                return 0;
            }
            event(0, p);
            begin(p, 1);
            search();
            return 1;
        }

        long ask(int mood) {
            if (mood < 0 || mood > 7) {
                return BAD_ARGUMENT;
            }
            s.mood = mood;
            way = null;
            meet();
            if (s.mood == NONE) {
                return 0;
            }
            search();
            return way == null ? NONE : way.size();
        }

        long leave() {
            int was = s.mood;
            s.mood = NONE;
            way = null;
            return was;
        }

        long way(int i) {
            if (i == NONE) {
                return way == null ? NONE : way.size();
            }
            return way == null || i < 0 || i >= way.size() ? NO_ELEMENT : way.get(i);
        }

        long cost() {
            if (way == null) {
                return NONE;
            }
            long cost = 0;
            int piece = s.plays;
            int done = s.done;
            int over = s.over;
            for (int step : way) {
                int behind = step == 100 ? beats(piece) : joints.get(step)[1];
                cost += 24L * (step == 100 ? price[0] : joints.get(step)[3]);
                cost += price[1] * ((long) (behind - done) * beat(piece) - over);
                piece = step == 100 ? piece : joints.get(step)[2];
                done = 0;
                over = 0;
            }
            return cost;
        }

        long reach(int p, int mood) {
            if (!playable(p)) {
                return NO_ELEMENT;
            }
            if (mood < 0 || mood > 7) {
                return BAD_ARGUMENT;
            }
            return fastest(p, mood, pieces.size());
        }

        long fastest(int p, int mood, int steps) {
            if (has(p, mood)) {
                return 0;
            }
            long best = NONE;
            for (int[] j : joints) {
                if (j[0] == p && steps > 0) {
                    long rest = fastest(j[2], mood, steps - 1);
                    long time = rest + (long) j[1] * beat(p);
                    if (rest != NONE && (best == NONE || time < best)) {
                        best = time;
                    }
                }
            }
            return best;
        }

        long lacks(int p, int mood) {
            if (!playable(p)) {
                return NO_ELEMENT;
            }
            if (mood < 0 || mood > 7) {
                return BAD_ARGUMENT;
            }
            boolean[] seen = new boolean[20];
            visit(p, seen);
            for (int q = 0; q < pieces.size(); q++) {
                if (seen[q] && has(q, mood)) {
                    return NONE;
                }
            }
            for (int q = 0; q < pieces.size(); q++) {
                for (int r = 0; r < pieces.size(); r++) {
                    if (seen[q] && has(r, mood)) {
                        return 100L * q + r;
                    }
                }
            }
            return NONE;
        }

        void visit(int p, boolean[] seen) {
            if (!seen[p]) {
                seen[p] = true;
                for (int[] j : joints) {
                    if (j[0] == p) {
                        visit(j[2], seen);
                    }
                }
            }
        }

        long layer(int p, int top) {
            if (!exists(p)) {
                return NO_ELEMENT;
            }
            if (kind(p) != 2 || top < 0 || top > 8) {
                return NONE;
            }
            int was = s.top[p];
            s.top[p] = top;
            return was;
        }

        long sting(int p) {
            if (!exists(p)) {
                return NO_ELEMENT;
            }
            if (kind(p) != 3 || s.waiting.size() == 4) {
                return NONE;
            }
            s.waiting.add(p);
            return s.waiting.size();
        }

        long go(int n) {
            if (n < 0 || n > 20000) {
                return BAD_ARGUMENT;
            }
            for (int i = 0; i < n; i++) {
                tick();
            }
            return s.time;
        }

        long now(int what) {
            switch (what) {
                case 0: return s.plays;
                case 1: return s.done;
                case 2: return s.turns;
                case 3: return s.over;
                case 4: return s.mood;
                case 5: return s.sounds;
                case 6: return s.waiting.size();
                case 7: return Arrays.stream(s.level).sum();
                case 8: return log.size();
                case 9: return pieces.size();
                case 10: return joints.size();
                default: return NO_ELEMENT;
            }
        }

        long level(int p) {
            return exists(p) ? s.level[p] : NO_ELEMENT;
        }

        long log(int i, int what) {
            return i < 0 || i >= log.size() || what < 0 || what > 2 ? NO_ELEMENT : log.get(i)[what];
        }

        long keep(int slot) {
            if (slot < 0 || slot > 3) {
                return BAD_ARGUMENT;
            }
            boolean was = slots[slot] != null;
            slots[slot] = s.copy();
            return was ? 1 : 0;
        }

        long goOn(int slot) {
            if (slot < 0 || slot > 3) {
                return BAD_ARGUMENT;
            }
            if (slots[slot] == null) {
                return 0;
            }
            s = slots[slot].copy();
            search();
            return 1;
        }
    }

    private static final class Run {
        final int seed;
        final Random random;
        final Model model = new Model();
        final MoodPlayer player = new MoodPlayer();
        final StringBuilder calls = new StringBuilder();
        final int maxPieces;
        final int maxJoints;
        int used = 0;
        boolean failed = false;

        Run(int seed) {
            this.seed = seed;
            random = new Random(seed);
            maxPieces = 3 + random.nextInt(6);
            maxJoints = 2 + random.nextInt(11);
        }

        int pick(int... of) {
            return of[random.nextInt(of.length)];
        }

        int below(int n) {
            return random.nextInt(n);
        }

        /** Mostly a piece, now and then a number beside them. */
        int somePiece() {
            return below(20) == 0 ? pick(-1, model.pieces.size(), 99, Integer.MIN_VALUE, Integer.MAX_VALUE)
                : below(Math.max(1, model.pieces.size()));
        }

        void go() {
            for (int i = 0; i < 3; i++) {
                call(0);
            }
            for (int i = 0; i < 4; i++) {
                call(1);
            }
            while (used <= MOST_CALLS - CALLS_LEFT_FOR_THE_LOOK && !failed) {
                call(below(30));
                for (int i = 0; i < GLANCES; i++) {
                    glance();
                }
            }
            look();
            if (used > MOST_CALLS) {
                wrong++;
                System.out.println("seed " + seed + ": the run is too long, " + used + " calls");
            }
        }

        void call(int which) {
            switch (which) {
                case 0: {
                    int kind = below(30) == 0 ? pick(-1, 4) : pick(0, 0, 0, 1, 1, 2, 3);
                    int beats = below(30) == 0 ? pick(0, 65, -1) : pick(1, 1, 2, 3, 4);
                    int beat = below(30) == 0 ? pick(23, 2401, 0) : pick(24, 24, 24, 25, 36, 48);
                    int moods = below(30) == 0 ? pick(-1, 256) : kind > 1 && below(8) > 0 ? 0 : pick(0, 0, 1, 2, 4, 5);
                    int most = below(30) == 0 ? pick(0, 10) : pick(1, 1, 2, 3, 9);
                    if (model.pieces.size() >= maxPieces) {
                        kind = 7;
                    }
                    same("piece(" + kind + ", " + beats + ", " + beat + ", " + moods + ", " + most + ")",
                        player.piece(kind, beats, beat, moods, most), model.piece(kind, beats, beat, moods, most));
                    break;
                }
                case 1: case 2: {
                    int from = somePiece();
                    int behind = below(20) == 0 ? pick(0, -1, 65) : 1 + below(4);
                    int to = somePiece();
                    int cost = below(20) == 0 ? pick(-1, 100) : pick(0, 0, 1, 2, 10, 99);
                    if (model.joints.size() >= maxJoints) {
                        cost = 100;
                    }
                    long got;
                    try {
                        got = player.joint(from, behind, to, cost);
                    } catch (NoSuchElementException e) {
                        got = NO_ELEMENT;
                    }
                    same("joint(" + from + ", " + behind + ", " + to + ", " + cost + ")", got,
                        model.joint(from, behind, to, cost));
                    break;
                }
                case 3: {
                    int what = below(20) == 0 ? pick(-1, 2) : below(2);
                    int v = below(20) == 0 ? pick(-1, 100) : pick(0, 0, 1, 5, 99);
                    long got;
                    try {
                        got = player.price(what, v);
                    } catch (IllegalArgumentException e) {
                        got = BAD_ARGUMENT;
                    }
                    same("price(" + what + ", " + v + ")", got, model.price(what, v));
                    break;
                }
                case 4: case 5: {
                    int p = somePiece();
                    long got;
                    try {
                        got = player.play(p) ? 1 : 0;
                    } catch (NoSuchElementException e) {
                        got = NO_ELEMENT;
                    }
                    same("play(" + p + ")", got, model.play(p));
                    break;
                }
                case 6: case 7: case 8: case 9: {
                    int mood = below(20) == 0 ? pick(-1, 8) : pick(0, 1, 2, 3);
                    long got;
                    try {
                        got = player.ask(mood);
                    } catch (IllegalArgumentException e) {
                        got = BAD_ARGUMENT;
                    }
                    same("ask(" + mood + ")", got, model.ask(mood));
                    break;
                }
                case 10:
                    if (below(3) == 0) {
                        same("leave()", player.leave(), model.leave());
                    }
                    break;
                case 11: case 12: case 13: {
                    int p = somePiece();
                    int top = pick(0, 0, 1, 3, 8, 8, 8, -1, 9);
                    long got;
                    try {
                        got = player.layer(p, top);
                    } catch (NoSuchElementException e) {
                        got = NO_ELEMENT;
                    }
                    same("layer(" + p + ", " + top + ")", got, model.layer(p, top));
                    break;
                }
                case 14: case 15: case 16: {
                    int p = somePiece();
                    long got;
                    try {
                        got = player.sting(p);
                    } catch (NoSuchElementException e) {
                        got = NO_ELEMENT;
                    }
                    same("sting(" + p + ")", got, model.sting(p));
                    break;
                }
                case 17: case 18: {
                    int slot = below(20) == 0 ? pick(-1, 4) : below(4);
                    long got;
                    boolean keep = which == 17;
                    try {
                        got = (keep ? player.keep(slot) : player.goOn(slot)) ? 1 : 0;
                    } catch (IllegalArgumentException e) {
                        got = BAD_ARGUMENT;
                    }
                    same((keep ? "keep(" : "goOn(") + slot + ")", got, keep ? model.keep(slot) : model.goOn(slot));
                    break;
                }
                default: {
                    int n = below(60) == 0 ? pick(-1, 20001, 5000) : pick(0, 1, 12, 24, 24, 48, 50, 72, 96, 1 + below(200));
                    long got;
                    try {
                        got = player.go(n);
                    } catch (IllegalArgumentException e) {
                        got = BAD_ARGUMENT;
                    }
                    same("go(" + n + ")", got, model.go(n));
                }
            }
        }

        /** All that can be looked at. */
        void look() {
            for (int what = -1; what <= 11; what++) {
                sameNow(what);
            }
            for (int i = -2; i <= 12; i++) {
                sameWay(i);
            }
            same("cost()", player.cost(), model.cost());
            for (int p = -1; p <= model.pieces.size(); p++) {
                sameLevel(p);
            }
            for (int i : new int[] {-1, 0, 1, -3, -2}) {
                for (int what = -1; what <= 3; what++) {
                    sameLog(i < -1 ? model.log.size() + i + 2 : i, what);
                }
            }
            sameReach();
            sameLacks();
        }

        /** Something that can be looked at. */
        void glance() {
            switch (below(10)) {
                case 0: case 1: case 2: sameNow(below(30) == 0 ? pick(-1, 11) : below(11)); break;
                case 3: case 4: sameWay(pick(-2, -1, -1, 0, 0, 1, 2, 3)); break;
                case 5: same("cost()", player.cost(), model.cost()); break;
                case 6: sameLevel(somePiece()); break;
                case 7: sameLog(model.log.size() - pick(0, 1, 1, 1, 2, 2, 3, 4, 300), pick(0, 0, 1, 1, 2, 2, 3, -1)); break;
                case 8: sameReach(); break;
                default: sameLacks();
            }
        }

        void sameNow(int what) {
            same("now(" + what + ")", now(what), model.now(what));
        }

        void sameWay(int i) {
            same("way(" + i + ")", way(i), model.way(i));
        }

        void sameLevel(int p) {
            same("level(" + p + ")", level(p), model.level(p));
        }

        void sameLog(int i, int what) {
            same("log(" + i + ", " + what + ")", log(i, what), model.log(i, what));
        }

        void sameReach() {
            int p = somePiece();
            int mood = pick(0, 1, 2, 3, 7, 8, -1);
            same("reach(" + p + ", " + mood + ")", reach(p, mood), model.reach(p, mood));
        }

        void sameLacks() {
            int p = somePiece();
            int mood = pick(0, 1, 2, 3, 7, 8, -1);
            same("lacks(" + p + ", " + mood + ")", lacks(p, mood), model.lacks(p, mood));
        }

        long now(int what) {
            try {
                return player.now(what);
            } catch (NoSuchElementException e) {
                return NO_ELEMENT;
            }
        }

        long way(int i) {
            try {
                return player.way(i);
            } catch (NoSuchElementException e) {
                return NO_ELEMENT;
            }
        }

        long level(int p) {
            try {
                return player.level(p);
            } catch (NoSuchElementException e) {
                return NO_ELEMENT;
            }
        }

        long log(int i, int what) {
            try {
                return player.log(i, what);
            } catch (NoSuchElementException e) {
                return NO_ELEMENT;
            }
        }

        long reach(int p, int mood) {
            try {
                return player.reach(p, mood);
            } catch (NoSuchElementException e) {
                return NO_ELEMENT;
            } catch (IllegalArgumentException e) {
                return BAD_ARGUMENT;
            }
        }

        long lacks(int p, int mood) {
            try {
                return player.lacks(p, mood);
            } catch (NoSuchElementException e) {
                return NO_ELEMENT;
            } catch (IllegalArgumentException e) {
                return BAD_ARGUMENT;
            }
        }

        void same(String call, long got, long due) {
            used++;
            if (!call.startsWith("now") && !call.startsWith("way") && !call.startsWith("cost")
                && !call.startsWith("l") && !call.startsWith("reach") || call.startsWith("layer")
                || call.startsWith("leave")) {
                calls.append(call).append(" = ").append(got).append('\n');
            }
            if (got != due && !failed) {
                failed = true;
                wrong++;
                System.out.println("seed " + seed + ": " + call + " answered " + got + ", the model " + due
                    + "; the calls up to there:\n" + calls);
            }
        }
    }
}
