import java.util.ArrayList;
import java.util.List;
import java.util.NoSuchElementException;
import java.util.Random;

/**
 * Full scores (20 pieces, 100 joints), too large for the model: every call with wild arguments ends
 * with an answer or with the document's exception, and THE WAY is as cheap as all pairs' least costs say.
 * No object has more calls than the document promises answers for.
 */
public final class FullScoreTest {
    private static final long FAR = Long.MAX_VALUE / 4;
    private static final int[] WILD = {
        Integer.MIN_VALUE, -100, -2, -1, 0, 1, 2, 3, 4, 5, 7, 8, 9, 10, 11, 19, 20, 21, 23, 24, 63, 64, 65, 99, 100, 101,
        255, 256, 299, 300, 2400, 2401, 19999, 20000, 20001, Integer.MAX_VALUE};
    private static final int MOST_CALLS = 512;
    /** More than one round of a walk, with a way of 21 steps looked at twice, can take. */
    private static final int CALLS_OF_A_ROUND = 70;
    private static int wrong = 0;

    private final Random random;
    private final MoodPlayer player = new MoodPlayer();
    private int used = 0;
    private final List<int[]> pieces = new ArrayList<>();
    private final List<int[]> joints = new ArrayList<>();
    private int again = 10;
    private int late = 1;

    private FullScoreTest(int seed) {
        random = new Random(seed);
    }

    public static void main(String[] args) {
        for (int seed = 0; seed < 400 && wrong == 0; seed++) {
            FullScoreTest walked = new FullScoreTest(seed);
            walked.tell();
            walked.walk();
            FullScoreTest called = new FullScoreTest(seed);
            called.tell();
            called.wild();
        }
        if (wrong > 0) {
            System.exit(1);
        }
        System.out.println("full scores are led through at least cost");
    }

    private void check(String what, long got, long due) {
        if (got != due) {
            wrong++;
            System.out.println(what + " answered " + got + ", due is " + due);
        }
    }

    private void tell() {
        int layers = random.nextInt(4);
        for (int i = 0; i < 20; i++) {
            int kind = i < layers ? 2 : i < 2 * layers ? 3 : random.nextInt(2);
            int moods = kind > 1 ? 0 : random.nextInt(4) == 0 ? 1 << random.nextInt(8) : 0;
            int[] p = {kind, 1 + random.nextInt(8), 24 + 12 * random.nextInt(4), moods, 1 + random.nextInt(9)};
            used++;
            check("piece", player.piece(p[0], p[1], p[2], p[3], p[4]), i);
            pieces.add(p);
        }
        int range = 1 + random.nextInt(99);
        for (int tries = 0; tries < 5000 && joints.size() < 100; tries++) {
            int from = random.nextInt(20);
            int[] j = {from, 1 + random.nextInt(pieces.get(from)[1]), random.nextInt(20), random.nextInt(range)};
            if (isNew(j)) {
                used++;
                check("joint", player.joint(j[0], j[1], j[2], j[3]), joints.size());
                joints.add(j);
            }
        }
    }

    private boolean isNew(int[] joint) {
        for (int[] j : joints) {
            if (j[0] == joint[0] && j[1] == joint[1] && j[2] == joint[2]) {
                return false;
            }
        }
        return pieces.get(joint[0])[0] < 2 && pieces.get(joint[2])[0] < 2;
    }

    private int now(int what) {
        used++;
        return player.now(what);
    }

    private int way(int i) {
        used++;
        return player.way(i);
    }

    private long cost() {
        used++;
        return player.cost();
    }

    /** What a step costs from a piece with beats done and a part of a beat over. */
    private long stepCost(int step, int piece, int done, int over) {
        int[] p = pieces.get(piece);
        int behind = step == 100 ? p[1] : joints.get(step)[1];
        int own = step == 100 ? again : joints.get(step)[3];
        return 24L * own + late * ((behind - done) * (long) p[2] - over);
    }

    private long[][] allPairs() {
        long[][] least = new long[20][20];
        for (int a = 0; a < 20; a++) {
            for (int b = 0; b < 20; b++) {
                least[a][b] = a == b ? 0 : FAR;
            }
        }
        for (int j = 0; j < joints.size(); j++) {
            int from = joints.get(j)[0];
            int to = joints.get(j)[2];
            least[from][to] = Math.min(least[from][to], stepCost(j, from, 0, 0));
        }
        for (int via = 0; via < 20; via++) {
            for (int a = 0; a < 20; a++) {
                for (int b = 0; b < 20; b++) {
                    least[a][b] = Math.min(least[a][b], least[a][via] + least[via][b]);
                }
            }
        }
        return least;
    }

    private long leastFrom(int piece, int done, int over, int mood) {
        long[][] least = allPairs();
        long best = FAR;
        for (int step = 0; step <= 100; step++) {
            boolean joint = step < joints.size() && joints.get(step)[0] == piece && joints.get(step)[1] > done;
            if (joint || step == 100 && pieces.get(piece)[0] == 0) {
                int next = step == 100 ? piece : joints.get(step)[2];
                for (int goal = 0; goal < 20; goal++) {
                    if ((pieces.get(goal)[3] >> mood & 1) != 0) {
                        best = Math.min(best, stepCost(step, piece, done, over) + least[next][goal]);
                    }
                }
            }
        }
        return best >= FAR ? MoodPlayer.NONE : best;
    }

    /** The cost of the steps that way tells, or a number that no way has. */
    private long costOfRow(int mood) {
        int piece = now(0);
        int done = now(1);
        int over = now(3);
        long cost = 0;
        int steps = way(MoodPlayer.NONE);
        for (int i = 0; i < steps; i++) {
            int step = way(i);
            boolean open = step == 100 ? pieces.get(piece)[0] == 0
                : joints.get(step)[0] == piece && joints.get(step)[1] > done;
            if (!open) {
                return -77;
            }
            cost += stepCost(step, piece, done, over);
            piece = step == 100 ? piece : joints.get(step)[2];
            done = 0;
            over = 0;
        }
        return (pieces.get(piece)[3] >> mood & 1) != 0 ? cost : -78;
    }

    private void walk() {
        while (used <= MOST_CALLS - CALLS_OF_A_ROUND && wrong == 0) {
            walkOn();
        }
        check("the walk is short enough", used <= MOST_CALLS ? 1 : 0, 1);
    }

    private void walkOn() {
        int piece = random.nextInt(20);
        if (random.nextInt(3) == 0 && pieces.get(piece)[0] < 2) {
            used++;
            player.play(piece);
        }
        if (random.nextInt(5) == 0) {
            again = random.nextInt(100);
            late = random.nextInt(4);
            used += 2;
            player.price(0, again);
            player.price(1, late);
        }
        int mood = random.nextInt(8);
        if (now(0) != MoodPlayer.NONE) {
            used++;
            int steps = player.ask(mood);
            if (steps > 0) {
                long least = leastFrom(now(0), now(1), now(3), mood);
                check("cost", cost(), least);
                check("the row's cost", costOfRow(mood), least);
            } else if (steps == MoodPlayer.NONE) {
                check("no way", leastFrom(now(0), now(1), now(3), mood), MoodPlayer.NONE);
            }
        }
        used++;
        player.go(random.nextInt(300));
        if (way(MoodPlayer.NONE) > 0) {
            check("the cost that is left", cost(), leastFrom(now(0), now(1), now(3), mood));
            check("the row that is left", costOfRow(mood), cost());
        }
    }

    private int some() {
        return WILD[random.nextInt(WILD.length)];
    }

    private void wild() {
        for (; used < MOST_CALLS; used++) {
            try {
                wildCall(random.nextInt(19));
            } catch (NoSuchElementException | IllegalArgumentException e) {
                Class<?> c = e.getClass();
                check("an exception's class is the document's", c == NoSuchElementException.class
                    || c == IllegalArgumentException.class ? 1 : 0, 1);
            }
        }
    }

    private void wildCall(int which) {
        switch (which) {
            case 0: player.piece(some(), some(), some(), some(), some()); break;
            case 1: player.joint(some(), some(), some(), some()); break;
            case 2: player.price(some(), some()); break;
            case 3: player.play(some()); break;
            case 4: player.ask(some()); break;
            case 5: player.leave(); break;
            case 6: player.way(some()); break;
            case 7: player.cost(); break;
            case 8: player.reach(some(), some()); break;
            case 9: player.lacks(some(), some()); break;
            case 10: player.layer(some(), some()); break;
            case 11: player.sting(some()); break;
            case 12: player.now(some()); break;
            case 13: player.level(some()); break;
            case 14: player.log(some(), some()); break;
            case 15: player.keep(some()); break;
            case 16: player.goOn(some()); break;
            default: player.go(some());
        }
    }
}
