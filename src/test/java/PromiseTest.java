import java.util.NoSuchElementException;

/** The document's promises, one method for each; the answers that are due were worked out by hand. */
public final class PromiseTest {
    private static final int LOOP = 0;
    private static final int BRIDGE = 1;
    private static final int LAYER = 2;
    private static final int STING = 3;
    private static final int NONE = -1;
    private static final String NO_ELEMENT = "NoSuchElementException";
    private static final String BAD_ARGUMENT = "IllegalArgumentException";

    private interface Call {
        Object answer();
    }

    private static int wrong = 0;
    private static String promise = "";

    public static void main(String[] args) {
        newObject();
        piece();
        joint();
        price();
        play();
        ask();
        leave();
        way();
        wayOfLeastCost();
        wayFoundAnew();
        cost();
        reach();
        lacks();
        layer();
        layersTogether();
        sting();
        stingsInARow();
        go();
        goBehindLastBeat();
        now();
        level();
        log();
        keep();
        goOn();
        if (wrong > 0) {
            System.exit(1);
        }
        System.out.println("the promises hold");
    }

    // ---- helpers ----

    private static String told(Call call) {
        try {
            return String.valueOf(call.answer());
        } catch (NoSuchElementException e) {
            return NO_ELEMENT;
        } catch (IllegalArgumentException e) {
            return BAD_ARGUMENT;
        }
    }

    private static void due(String what, Object due, Call call) {
        String got = told(call);
        if (!got.equals(String.valueOf(due))) {
            wrong++;
            System.out.println(promise + ": " + what + " answered " + got + ", due is " + due);
        }
    }

    /** All that now tells, 0 to 10, in one row. */
    private static String nows(MoodPlayer x) {
        StringBuilder row = new StringBuilder();
        for (int what = 0; what <= 10; what++) {
            row.append(what == 0 ? "" : " ").append(x.now(what));
        }
        return row.toString();
    }

    /** THE WAY that is left, as a row; "none" if there is none. */
    private static String row(MoodPlayer x) {
        int steps = x.way(NONE);
        StringBuilder row = new StringBuilder();
        for (int i = 0; i < steps; i++) {
            row.append(i == 0 ? "" : " ").append(x.way(i));
        }
        return steps == NONE ? "none" : row.toString();
    }

    /** The i-th event as time:what:number. */
    private static String event(MoodPlayer x, int i) {
        return x.log(i, 0) + ":" + x.log(i, 1) + ":" + x.log(i, 2);
    }

    /** All events from one on. */
    private static String events(MoodPlayer x, int from) {
        StringBuilder row = new StringBuilder();
        for (int i = from; i < x.now(8); i++) {
            row.append(i == from ? "" : " ").append(event(x, i));
        }
        return row.toString();
    }

    /** 0 a loop with mood 0, 1 a loop with mood 1, 2 a bridge, 3 a layer, 4 a sting; no joints. */
    private static MoodPlayer five() {
        MoodPlayer x = new MoodPlayer();
        x.piece(LOOP, 4, 24, 1, 2);
        x.piece(LOOP, 2, 48, 2, 9);
        x.piece(BRIDGE, 1, 30, 0, 1);
        x.piece(LAYER, 2, 24, 0, 1);
        x.piece(STING, 2, 24, 0, 1);
        return x;
    }

    // ---- the promises ----

    private static void newObject() {
        promise = "1 a new object";
        MoodPlayer x = new MoodPlayer();
        due("now", "-1 0 0 0 -1 -1 0 0 0 0 0", () -> nows(x));
        due("TIME", 0, () -> x.go(0));
        due("way(NONE)", NONE, () -> x.way(NONE));
        due("way(0)", NO_ELEMENT, () -> x.way(0));
        due("cost", NONE, () -> x.cost());
        due("leave", NONE, () -> x.leave());
        due("level(0)", NO_ELEMENT, () -> x.level(0));
        due("log(0, 0)", NO_ELEMENT, () -> x.log(0, 0));
        for (int slot = 0; slot < 4; slot++) {
            int s = slot;
            due("goOn(" + s + ")", false, () -> x.goOn(s));
        }
        due("go in silence", 20000, () -> x.go(20000));
        due("now after going in silence", "-1 0 0 0 -1 -1 0 0 0 0 0", () -> nows(x));
        due("NONE", -1, () -> MoodPlayer.NONE);
    }

    private static void piece() {
        promise = "2 piece";
        MoodPlayer x = new MoodPlayer();
        int[][] bad = {
            {-1, 1, 24, 0, 1}, {4, 1, 24, 0, 1}, {0, 0, 24, 0, 1}, {0, 65, 24, 0, 1}, {0, 1, 23, 0, 1},
            {0, 1, 2401, 0, 1}, {0, 1, 24, -1, 1}, {0, 1, 24, 256, 1}, {1, 1, 24, 256, 1}, {2, 1, 24, 1, 1},
            {3, 1, 24, 128, 1}, {2, 1, 24, -1, 1}, {0, 1, 24, 0, 0}, {0, 1, 24, 0, 10}, {2, 1, 24, 0, 0},
            {3, 1, 24, 0, 10}, {Integer.MIN_VALUE, Integer.MAX_VALUE, 24, 0, 1}, {0, 1, Integer.MAX_VALUE, 0, 1},
            {0, 1, 24, Integer.MIN_VALUE, 1}};
        for (int[] b : bad) {
            due("piece " + java.util.Arrays.toString(b), NONE, () -> x.piece(b[0], b[1], b[2], b[3], b[4]));
        }
        due("PIECES", 0, () -> x.now(9));
        int[][] good = {
            {0, 1, 24, 0, 1}, {0, 64, 2400, 255, 9}, {1, 64, 2400, 255, 9}, {1, 1, 24, 0, 1}, {2, 64, 2400, 0, 9},
            {3, 64, 2400, 0, 9}};
        for (int i = 0; i < good.length; i++) {
            int[] g = good[i];
            due("piece " + java.util.Arrays.toString(g), i, () -> x.piece(g[0], g[1], g[2], g[3], g[4]));
        }
        for (int i = good.length; i < 20; i++) {
            due("piece " + i, i, () -> x.piece(0, 1, 24, 0, 1));
        }
        due("the 21st piece", NONE, () -> x.piece(0, 1, 24, 0, 1));
        due("PIECES", 20, () -> x.now(9));
    }

    private static void joint() {
        promise = "3 joint";
        MoodPlayer x = five();
        due("behind the first beat", 0, () -> x.joint(0, 1, 1, 0));
        due("behind the last beat, the highest cost", 1, () -> x.joint(0, 4, 1, 99));
        due("from a bridge", 2, () -> x.joint(2, 1, 0, 5));
        due("to itself", 3, () -> x.joint(0, 4, 0, 5));
        due("to a bridge", 4, () -> x.joint(0, 4, 2, 5));
        due("one like it, another cost", NONE, () -> x.joint(0, 4, 2, 6));
        due("one like the first", NONE, () -> x.joint(0, 1, 1, 0));
        due("another beat", 5, () -> x.joint(0, 3, 2, 6));
        due("beat 0", NONE, () -> x.joint(0, 0, 2, 0));
        due("a beat too many", NONE, () -> x.joint(0, 5, 2, 0));
        due("cost -1", NONE, () -> x.joint(0, 2, 2, -1));
        due("cost 100", NONE, () -> x.joint(0, 2, 2, 100));
        due("from a layer", NONE, () -> x.joint(3, 1, 0, 0));
        due("to a layer", NONE, () -> x.joint(0, 1, 3, 0));
        due("from a sting", NONE, () -> x.joint(4, 1, 0, 0));
        due("to a sting", NONE, () -> x.joint(0, 1, 4, 0));
        due("from no piece", NO_ELEMENT, () -> x.joint(5, 1, 0, 0));
        due("to no piece", NO_ELEMENT, () -> x.joint(0, 1, 5, 0));
        due("from -1", NO_ELEMENT, () -> x.joint(-1, 1, 0, 0));
        due("to -1", NO_ELEMENT, () -> x.joint(0, 99, -1, 1000));
        due("JOINTS", 6, () -> x.now(10));

        MoodPlayer y = new MoodPlayer();
        y.piece(LOOP, 64, 24, 0, 1);
        y.piece(LOOP, 64, 24, 0, 1);
        for (int i = 0; i < 100; i++) {
            int number = i;
            due("joint " + i, number, () -> y.joint(number / 64, number % 64 + 1, 1 - number / 64, 0));
        }
        due("the 101st joint", NONE, () -> y.joint(1, 64, 0, 0));
        due("no such piece with 100 joints", NO_ELEMENT, () -> y.joint(2, 64, 0, 0));
        due("JOINTS", 100, () -> y.now(10));
    }

    private static void price() {
        promise = "4 price";
        MoodPlayer x = new MoodPlayer();
        due("AGAIN at first", 10, () -> x.price(0, 99));
        due("LATE at first", 1, () -> x.price(1, 0));
        due("AGAIN then", 99, () -> x.price(0, 0));
        due("LATE then", 0, () -> x.price(1, 99));
        due("price -1", BAD_ARGUMENT, () -> x.price(-1, 0));
        due("price 2", BAD_ARGUMENT, () -> x.price(2, 0));
        due("v -1", BAD_ARGUMENT, () -> x.price(0, -1));
        due("v 100", BAD_ARGUMENT, () -> x.price(1, 100));
        due("AGAIN after what was refused", 0, () -> x.price(0, 1));
        due("LATE after what was refused", 99, () -> x.price(1, 1));
    }

    private static void play() {
        promise = "5 play";
        MoodPlayer x = five();
        due("a layer", false, () -> x.play(3));
        due("a sting", false, () -> x.play(4));
        due("no piece", NO_ELEMENT, () -> x.play(5));
        due("-1", NO_ELEMENT, () -> x.play(-1));
        due("still silent", "-1 0 0 0 -1 -1 0 0 0 5 0", () -> nows(x));
        due("a loop", true, () -> x.play(0));
        x.go(130);
        due("in its second turn", "0 1 2 10 -1 -1 0 0 2 5 0", () -> nows(x));
        due("a layer does not end it", false, () -> x.play(3));
        due("still in its second turn", "0 1 2 10 -1 -1 0 0 2 5 0", () -> nows(x));
        due("the same anew", true, () -> x.play(0));
        due("from its beginning", "0 0 1 0 -1 -1 0 0 3 5 0", () -> nows(x));
        x.go(23);
        due("its first beat is whole", "0 0 1 23 -1 -1 0 0 3 5 0", () -> nows(x));
        x.ask(1);
        due("a bridge", true, () -> x.play(2));
        due("the mood stays open", 1, () -> x.now(4));
        due("one with the mood", true, () -> x.play(1));
        due("it is met", NONE, () -> x.now(4));
        due("the log", "0:0:0 96:3:0 130:0:0 153:0:2 153:0:1 153:4:1", () -> events(x, 0));
    }

    private static void ask() {
        promise = "6 ask";
        MoodPlayer x = five();
        x.joint(0, 4, 1, 3);
        due("mood -1", BAD_ARGUMENT, () -> x.ask(-1));
        due("mood 8", BAD_ARGUMENT, () -> x.ask(8));
        due("in silence", NONE, () -> x.ask(1));
        due("open in silence", 1, () -> x.now(4));
        due("no way in silence", "none", () -> row(x));
        x.play(0);
        due("a way when a piece plays", "0", () -> row(x));
        due("what was refused changes nothing", BAD_ARGUMENT, () -> x.ask(8));
        due("still the way", "0", () -> row(x));
        due("none has it", NONE, () -> x.ask(7));
        due("open all the same", 7, () -> x.now(4));
        due("the former way is gone", "none", () -> row(x));
        due("one step", 1, () -> x.ask(1));
        due("what plays has it", 0, () -> x.ask(0));
        due("met at once", NONE, () -> x.now(4));
        due("no way is left", "none", () -> row(x));
        due("its cost", NONE, () -> x.cost());
        due("the log", "0:0:0 0:4:0", () -> events(x, 0));
        x.go(96);
        due("nothing leads away any more", 0, () -> x.now(0));
    }

    private static void leave() {
        promise = "7 leave";
        MoodPlayer x = five();
        x.joint(0, 2, 1, 3);
        x.play(0);
        due("none was", NONE, () -> x.leave());
        x.ask(1);
        due("which was", 1, () -> x.leave());
        due("open", NONE, () -> x.now(4));
        due("the way", "none", () -> row(x));
        due("the cost", NONE, () -> x.cost());
        due("again", NONE, () -> x.leave());
        x.go(60);
        due("no joint is taken", 0, () -> x.now(0));
        x.ask(0);
        due("one that was met", NONE, () -> x.leave());
        x.ask(5);
        due("one without a way", 5, () -> x.leave());
    }

    private static void way() {
        promise = "8 way";
        MoodPlayer x = five();
        x.joint(0, 2, 2, 0);
        x.joint(2, 1, 1, 0);
        x.play(0);
        due("no mood", NONE, () -> x.way(NONE));
        due("steps", 2, () -> x.ask(1));
        due("how many", 2, () -> x.way(NONE));
        due("step 0", 0, () -> x.way(0));
        due("step 1", 1, () -> x.way(1));
        due("step 2", NO_ELEMENT, () -> x.way(2));
        due("step -2", NO_ELEMENT, () -> x.way(-2));
        x.go(48);
        due("what is left", "1", () -> row(x));
        due("step 1 is no more", NO_ELEMENT, () -> x.way(1));
        x.go(30);
        due("none is left", NONE, () -> x.way(NONE));
        due("no step 0", NO_ELEMENT, () -> x.way(0));
        due("the log", "0:0:0 48:1:0 78:1:1 78:4:1", () -> events(x, 0));

        MoodPlayer y = five();
        y.joint(0, 1, 1, 0);
        y.play(0);
        y.go(24);
        due("again, then a joint", 2, () -> y.ask(1));
        due("told as 100", "100 0", () -> row(y));
        y.go(72);
        due("behind the step again", "0", () -> row(y));
        due("turns", 2, () -> y.now(2));
        due("the log", "0:0:0 96:3:0", () -> events(y, 0));
    }

    private static void wayOfLeastCost() {
        promise = "8 way, of least cost";
        MoodPlayer x = new MoodPlayer();
        x.piece(LOOP, 4, 24, 1, 1);
        x.piece(BRIDGE, 1, 24, 0, 1);
        x.piece(LOOP, 4, 24, 2, 1);
        x.joint(0, 1, 1, 0);
        x.joint(1, 1, 2, 0);
        x.joint(0, 4, 2, 0);
        x.joint(0, 3, 2, 1);
        x.play(0);
        x.ask(1);
        due("two steps in 48", "0 1", () -> row(x));
        due("its cost", 48, () -> x.cost());
        x.price(1, 0);
        due("fewer steps of like cost", "2", () -> row(x));
        due("its cost", 0, () -> x.cost());
        x.joint(0, 2, 2, 0);
        due("the first of like ones", "2", () -> row(x));
        x.price(1, 1);
        due("now the earlier one of like cost, with fewer steps", "4", () -> row(x));
        due("its cost", 48, () -> x.cost());
        x.go(24);
        due("left after a beat", "4", () -> row(x));
        due("its cost", 24, () -> x.cost());

        MoodPlayer y = new MoodPlayer();
        y.piece(LOOP, 2, 24, 0, 1);
        y.piece(BRIDGE, 1, 24, 0, 1);
        y.piece(BRIDGE, 1, 24, 0, 1);
        y.piece(LOOP, 1, 24, 1, 1);
        y.joint(1, 1, 3, 0);
        y.joint(2, 1, 3, 0);
        y.joint(0, 1, 2, 7);
        y.joint(0, 1, 1, 7);
        y.play(0);
        y.ask(0);
        due("the first row, by the first number that differs", "2 1", () -> row(y));
        y.leave();
        y.go(24);
        y.ask(0);
        due("again and the first row", "100 2 1", () -> row(y));
        due("its cost", 24 * 17 + 24 + 24 + 24, () -> y.cost());

        MoodPlayer z = new MoodPlayer();
        z.piece(LOOP, 4, 24, 0, 1);
        z.piece(LOOP, 1, 24, 1, 1);
        z.joint(0, 1, 1, 0);
        z.joint(0, 4, 1, 15);
        z.play(0);
        z.go(24);
        z.ask(0);
        due("again for 240 and 24 is dearer than 360 less nothing", "100 0", () -> row(z));
        z.price(0, 15);
        due("now it is dearer", "1", () -> row(z));
        z.price(0, 14);
        due("of like cost: fewer steps", "1", () -> row(z));
        z.price(0, 13);
        due("cheaper by a tick", "100 0", () -> row(z));

        MoodPlayer w = new MoodPlayer();
        w.piece(LOOP, 2, 24, 0, 1);
        w.piece(LOOP, 2, 24, 0, 1);
        w.piece(BRIDGE, 1, 24, 0, 1);
        w.piece(LOOP, 1, 24, 1, 1);
        w.joint(2, 1, 3, 0);
        w.joint(1, 1, 2, 0);
        w.joint(1, 2, 3, 0);
        w.joint(0, 1, 1, 0);
        w.play(0);
        due("fewer steps of like cost, later on the way", 2, () -> w.ask(0));
        due("its row", "3 2", () -> row(w));
        w.joint(0, 1, 2, 1);
        due("of like cost and as many steps: the first", "3 2", () -> row(w));
    }

    private static void wayFoundAnew() {
        promise = "8 way, found anew";
        MoodPlayer x = five();
        x.play(0);
        due("no joint: none", NONE, () -> x.ask(1));
        x.joint(0, 4, 1, 3);
        due("a joint makes one", "0", () -> row(x));
        x.joint(0, 2, 2, 0);
        x.joint(2, 1, 1, 0);
        due("a cheaper joint", "1 2", () -> row(x));
        due("its cost", 78, () -> x.cost());
        x.price(1, 0);
        x.joint(0, 3, 1, 0);
        due("fewer steps", "3", () -> row(x));
        x.go(72);
        due("it was taken", 1, () -> x.now(0));
        x.price(1, 1);
        x.ask(0);
        due("from the other none", "none", () -> row(x));
        x.play(2);
        due("a piece that began other than by the way: none", "none", () -> row(x));
        x.joint(1, 2, 0, 0);
        due("behind the bridge", "2 4", () -> row(x));
        x.play(1);
        due("another piece is told to", "4", () -> row(x));
        x.piece(LOOP, 1, 24, 1, 1);
        due("a piece that nothing leads to", "4", () -> row(x));

        MoodPlayer y = five();
        y.play(0);
        y.ask(1);
        y.go(96);
        due("no way: again by itself", "0 0 2 0 1 -1 0 0 2 5 0", () -> nows(y));
        y.go(24);
        y.joint(0, 1, 1, 0);
        due("behind a beat that is done", "100 0", () -> row(y));
        y.go(96);
        due("again by the way, though turns are at most", "216:1:0", () -> event(y, 3));
        due("met", "216:4:1", () -> event(y, 4));
        due("what was logged", 5, () -> y.now(8));

        MoodPlayer z = five();
        z.joint(0, 1, 1, 0);
        z.play(0);
        z.ask(1);
        z.piece(LOOP, 1, 24, 0, 1);
        z.play(5);
        due("a piece made later, from which nothing leads", "none", () -> row(z));
        z.joint(5, 1, 0, 0);
        due("until a joint does", "1 0", () -> row(z));
    }

    private static void cost() {
        promise = "9 cost";
        MoodPlayer x = five();
        x.joint(0, 2, 2, 5);
        x.joint(2, 1, 1, 7);
        due("none", NONE, () -> x.cost());
        x.play(0);
        due("no mood", NONE, () -> x.cost());
        x.ask(1);
        due("24 times the joints and the time", 24 * 12 + 48 + 30, () -> x.cost());
        x.go(1);
        due("a 24th later", 24 * 12 + 48 + 30 - 1, () -> x.cost());
        x.price(1, 99);
        due("at the highest price", 24 * 12 + 99 * 77, () -> x.cost());
        x.go(47);
        due("behind the first joint", 24 * 7 + 99 * 30, () -> x.cost());
        x.go(29);
        due("just before the last", 24 * 7 + 99, () -> x.cost());
        x.go(1);
        due("when it is met", NONE, () -> x.cost());
        x.ask(7);
        due("no way", NONE, () -> x.cost());

        MoodPlayer y = five();
        y.joint(0, 1, 1, 2);
        y.play(0);
        y.go(30);
        y.ask(1);
        due("with again", 24 * 12 + 66 + 24, () -> y.cost());
        y.price(0, 99);
        due("with again, dearer", 24 * 101 + 66 + 24, () -> y.cost());
    }

    private static void reach() {
        promise = "10 reach";
        MoodPlayer x = five();
        x.joint(0, 4, 1, 0);
        x.joint(0, 1, 2, 99);
        x.joint(2, 1, 1, 99);
        due("the least time, whatever it costs", 54, () -> x.reach(0, 1));
        due("it has it", 0, () -> x.reach(0, 0));
        due("from the bridge", 30, () -> x.reach(2, 1));
        due("it can't", NONE, () -> x.reach(1, 0));
        due("none has it", NONE, () -> x.reach(0, 7));
        due("mood -1", BAD_ARGUMENT, () -> x.reach(0, -1));
        due("mood 8", BAD_ARGUMENT, () -> x.reach(0, 8));
        due("a layer", NO_ELEMENT, () -> x.reach(3, 0));
        due("a sting", NO_ELEMENT, () -> x.reach(4, 0));
        due("no piece", NO_ELEMENT, () -> x.reach(5, 0));
        due("-1", NO_ELEMENT, () -> x.reach(-1, 0));
        x.play(0);
        x.go(60);
        due("what plays does not matter", 54, () -> x.reach(0, 1));
        x.price(1, 0);
        x.ask(1);
        due("prices do not matter", 54, () -> x.reach(0, 1));
        due("the way is left as it was", "0", () -> row(x));
        due("and its cost", 0, () -> x.cost());

        MoodPlayer y = new MoodPlayer();
        for (int i = 0; i < 20; i++) {
            y.piece(LOOP, 64, 2400, i == 19 ? 128 : 0, 1);
        }
        for (int i = 18; i >= 0; i--) {
            y.joint(i, 64, i + 1, 99);
        }
        due("through all pieces", 19L * 64 * 2400, () -> y.reach(0, 7));
        y.play(0);
        y.price(1, 99);
        due("a way through all pieces", 19, () -> y.ask(7));
        due("its cost", 19L * (24 * 99 + 99L * 64 * 2400), () -> y.cost());
    }

    private static void lacks() {
        promise = "11 lacks";
        MoodPlayer x = new MoodPlayer();
        x.piece(LOOP, 1, 24, 1, 1);
        x.piece(LOOP, 1, 24, 0, 1);
        x.piece(LOOP, 1, 24, 2, 1);
        x.piece(BRIDGE, 1, 24, 2, 1);
        x.piece(LAYER, 1, 24, 0, 1);
        x.piece(STING, 1, 24, 0, 1);
        due("itself, and the first that has it", 2, () -> x.lacks(0, 1));
        due("from the second", 102, () -> x.lacks(1, 1));
        due("it has it", NONE, () -> x.lacks(0, 0));
        due("none has it", NONE, () -> x.lacks(0, 7));
        due("from the last", 300, () -> x.lacks(3, 0));
        x.joint(3, 1, 1, 0);
        due("the first that can be come to", 100, () -> x.lacks(3, 0));
        due("what can be come to from the second is itself", 102, () -> x.lacks(1, 1));
        x.joint(1, 1, 2, 0);
        due("now it can be come to", NONE, () -> x.lacks(1, 1));
        due("three can be come to", 100, () -> x.lacks(3, 0));
        x.joint(1, 1, 0, 0);
        due("a joint between did", NONE, () -> x.lacks(3, 0));

        MoodPlayer y = new MoodPlayer();
        for (int i = 0; i < 6; i++) {
            y.piece(LOOP, 1, 24, i == 5 ? 8 : 0, 1);
        }
        y.joint(2, 1, 1, 0);
        y.joint(3, 1, 2, 0);
        y.joint(4, 1, 3, 0);
        due("the first that can be come to in three steps", 105, () -> y.lacks(4, 3));
        due("from the last of them", 105, () -> y.lacks(1, 3));
        y.joint(1, 1, 0, 0);
        due("in four", 5, () -> y.lacks(4, 3));
        y.joint(0, 1, 4, 0);
        due("in a ring", 5, () -> y.lacks(2, 3));
        due("mood -1", BAD_ARGUMENT, () -> x.lacks(0, -1));
        due("mood 8", BAD_ARGUMENT, () -> x.lacks(0, 8));
        due("a layer", NO_ELEMENT, () -> x.lacks(4, 0));
        due("a sting", NO_ELEMENT, () -> x.lacks(5, 0));
        due("no piece", NO_ELEMENT, () -> x.lacks(6, 0));
        due("-1", NO_ELEMENT, () -> x.lacks(-1, 0));
    }

    private static void layer() {
        promise = "12 layer";
        MoodPlayer x = five();
        due("it was off", 0, () -> x.layer(3, 3));
        due("top 9", NONE, () -> x.layer(3, 9));
        due("top -1", NONE, () -> x.layer(3, -1));
        due("a loop", NONE, () -> x.layer(0, 1));
        due("a sting", NONE, () -> x.layer(4, 1));
        due("no piece", NO_ELEMENT, () -> x.layer(5, 1));
        due("-1", NO_ELEMENT, () -> x.layer(-1, 9));
        due("the top it had", 3, () -> x.layer(3, 8));
        due("the highest top", 8, () -> x.layer(3, 1));
        due("the lowest top", 1, () -> x.layer(3, 3));
        x.play(0);
        due("nothing at a beginning that is told to", 0, () -> x.level(3));
        x.go(24);
        due("behind beat 1", 0, () -> x.level(3));
        x.go(24);
        due("behind beat 2", 1, () -> x.level(3));
        x.go(48);
        due("behind the last beat, at the beginning", 2, () -> x.level(3));
        x.go(48);
        due("at its top", 3, () -> x.level(3));
        x.go(48);
        due("not above it", 3, () -> x.level(3));
        due("a lower top", 3, () -> x.layer(3, 1));
        x.go(96);
        due("it stays above a lower top", 3, () -> x.level(3));
        due("off", 1, () -> x.layer(3, 0));
        due("it has its level yet", 3, () -> x.level(3));
        x.go(48);
        due("one less", 2, () -> x.level(3));
        x.go(96);
        due("down to 0", 0, () -> x.level(3));
        x.go(96);
        due("not below", 0, () -> x.level(3));
    }

    private static void layersTogether() {
        promise = "12 layer, all together";
        MoodPlayer x = new MoodPlayer();
        x.piece(BRIDGE, 8, 24, 0, 1);
        for (int i = 0; i < 3; i++) {
            x.piece(LAYER, 1, 24, 0, 1);
            x.layer(i + 1, 8);
        }
        x.play(0);
        x.go(24 * 5);
        due("five beats", "5 5 5 15", () -> x.level(1) + " " + x.level(2) + " " + x.level(3) + " " + x.now(7));
        x.go(24);
        due("only one more is left", "6 5 5 16", () -> x.level(1) + " " + x.level(2) + " " + x.level(3) + " " + x.now(7));
        x.layer(1, 0);
        x.go(24);
        due("one goes down, the next one up", "5 6 5 16",
            () -> x.level(1) + " " + x.level(2) + " " + x.level(3) + " " + x.now(7));
        x.go(24);
        due("silence", "-1 0", () -> x.now(0) + " " + x.now(7));
        due("all levels are 0", "0 0 0", () -> x.level(1) + " " + x.level(2) + " " + x.level(3));
        x.play(0);
        x.go(24);
        due("those that are on go up again", "0 1 1", () -> x.level(1) + " " + x.level(2) + " " + x.level(3));
        due("tops stay in silence", 8, () -> x.layer(2, 0));

        MoodPlayer y = new MoodPlayer();
        y.piece(LAYER, 1, 24, 0, 1);
        y.piece(LOOP, 1, 24, 0, 1);
        y.layer(0, 8);
        y.play(1);
        y.go(72);
        due("a layer that is the first piece", "3 3", () -> y.level(0) + " " + y.now(7));
        for (int i = 2; i < 20; i++) {
            y.piece(LAYER, 1, 24, 0, 1);
        }
        y.layer(19, 8);
        y.go(24);
        due("one that is the last", "4 1 5", () -> y.level(0) + " " + y.level(19) + " " + y.now(7));
    }

    private static void sting() {
        promise = "13 sting";
        MoodPlayer x = five();
        due("a loop", NONE, () -> x.sting(0));
        due("a layer", NONE, () -> x.sting(3));
        due("no piece", NO_ELEMENT, () -> x.sting(5));
        due("-1", NO_ELEMENT, () -> x.sting(-1));
        for (int i = 1; i <= 4; i++) {
            due("waits " + i, i, () -> x.sting(4));
        }
        due("four wait", NONE, () -> x.sting(4));
        due("no piece when four wait", NO_ELEMENT, () -> x.sting(5));
        due("waiting", 4, () -> x.now(6));
        x.go(100);
        due("in silence none begins", "-1 4", () -> x.now(5) + " " + x.now(6));
        x.play(0);
        due("nor at a beginning that is told to", "-1 4", () -> x.now(5) + " " + x.now(6));
        x.go(24);
        due("behind a beat with three left", "4 3", () -> x.now(5) + " " + x.now(6));
        due("one more may wait", 4, () -> x.sting(4));
        x.go(47);
        due("nearly over", "4 4", () -> x.now(5) + " " + x.now(6));
        x.go(1);
        due("over; one beat left is too few", "-1 4", () -> x.now(5) + " " + x.now(6));
        x.go(24);
        due("at the next turn", "4 3", () -> x.now(5) + " " + x.now(6));
        x.go(48);
        due("one ends, two beats are left for the next", "4 2", () -> x.now(5) + " " + x.now(6));
        x.go(48);
        due("the log", "100:0:0 124:5:4 172:6:4 196:3:0 196:5:4 244:6:4 244:5:4 292:6:4 292:3:0 292:5:4",
            () -> events(x, 0));
    }

    private static void stingsInARow() {
        promise = "13 sting, in a row";
        MoodPlayer x = new MoodPlayer();
        x.piece(BRIDGE, 4, 24, 0, 1);
        x.piece(STING, 4, 24, 0, 1);
        x.piece(STING, 1, 30, 0, 1);
        x.piece(STING, 3, 100, 0, 1);
        x.piece(BRIDGE, 4, 24, 0, 1);
        x.play(0);
        x.sting(1);
        x.sting(2);
        x.go(72);
        due("the first one is too long, the second waits behind it", "-1 2", () -> x.now(5) + " " + x.now(6));
        x.joint(0, 4, 4, 0);
        x.go(24);
        due("as many beats as it has", "1 1", () -> x.now(5) + " " + x.now(6));
        x.go(96);
        due("silence; it is over ahead of that, and the next one waits", "-1 -1 1",
            () -> x.now(0) + " " + x.now(5) + " " + x.now(6));
        due("the log", "0:0:0 96:2:0 96:5:1 192:6:1 192:7:4", () -> events(x, 0));
        x.play(0);
        x.sting(3);
        x.go(24);
        due("begins", "2 1", () -> x.now(5) + " " + x.now(6));
        x.go(30);
        due("over in the middle of a beat, the next one waits for a beat", "-1 1", () -> x.now(5) + " " + x.now(6));
        due("when it was over", "246:6:2", () -> event(x, 7));
        x.play(0);
        x.go(24);
        due("the next one", "3 0", () -> x.now(5) + " " + x.now(6));
        x.play(4);
        due("another piece does not end it", 3, () -> x.now(5));
        x.go(150);
        due("nor does silence", "-1 3", () -> x.now(0) + " " + x.now(5));
        x.go(1000);
        due("it ends by its own length", "570:6:3", () -> event(x, x.now(8) - 1));
        due("none sounds", NONE, () -> x.now(5));
    }

    private static void go() {
        promise = "14 go";
        MoodPlayer x = five();
        due("n -1", BAD_ARGUMENT, () -> x.go(-1));
        due("n 20001", BAD_ARGUMENT, () -> x.go(20001));
        due("the least n", BAD_ARGUMENT, () -> x.go(Integer.MIN_VALUE));
        due("n 0", 0, () -> x.go(0));
        due("n 20000", 20000, () -> x.go(20000));
        x.play(0);
        due("up to just before a beat", 20023, () -> x.go(23));
        due("not done yet", "0 23", () -> x.now(1) + " " + x.now(3));
        due("the very time of the beat", 20024, () -> x.go(1));
        due("it is done", "1 0", () -> x.now(1) + " " + x.now(3));
        due("n 0 does nothing twice", 20024, () -> x.go(0));
        due("still one", "1 0", () -> x.now(1) + " " + x.now(3));
        due("n -1 when something plays", BAD_ARGUMENT, () -> x.go(-1));
        due("still one", "1 0", () -> x.now(1) + " " + x.now(3));
        due("over many turns", 40024, () -> x.go(20000));
        due("beats and turns: 20024 of 96 each", "0 2 209 8", () -> x.now(0) + " " + x.now(1) + " " + x.now(2) + " " + x.now(3));
    }

    private static void goBehindLastBeat() {
        promise = "14 go, behind the last beat";
        MoodPlayer x = new MoodPlayer();
        x.piece(LOOP, 2, 24, 0, 3);
        x.piece(BRIDGE, 1, 24, 0, 9);
        x.piece(LOOP, 1, 24, 0, 1);
        x.joint(0, 1, 2, 0);
        x.joint(0, 2, 2, 5);
        x.joint(0, 2, 1, 5);
        x.joint(0, 2, 0, 6);
        x.play(0);
        x.go(143);
        due("three turns, as its most is", "0 1 3", () -> x.now(0) + " " + x.now(1) + " " + x.now(2));
        x.go(1);
        due("then the joint there of least cost, the least of like ones", "2 0 1",
            () -> x.now(0) + " " + x.now(1) + " " + x.now(2));
        x.go(240);
        due("a loop with no joint goes again, above its most", "2 0 11", () -> x.now(0) + " " + x.now(1) + " " + x.now(2));
        due("the log", "0:0:0 48:3:0 96:3:0 144:2:1 168:3:2", () -> events(x, 0).substring(0, 35));
        x.joint(2, 1, 2, 9);
        x.go(24);
        due("a joint to itself: one turn more", "2 0 12", () -> x.now(0) + " " + x.now(1) + " " + x.now(2));
        due("it is a joint in the log", "408:2:4", () -> event(x, x.now(8) - 1));
        x.joint(2, 1, 1, 8);
        x.go(24);
        due("a bridge", "1 0 1", () -> x.now(0) + " " + x.now(1) + " " + x.now(2));
        x.go(24);
        due("without a joint: silence", "-1 0 0 0", () -> x.now(0) + " " + x.now(1) + " " + x.now(2) + " " + x.now(3));
        due("in the log", "456:7:1", () -> event(x, x.now(8) - 1));
        x.go(50);
        due("nothing goes on in silence", "-1 0 0 0", () -> x.now(0) + " " + x.now(1) + " " + x.now(2) + " " + x.now(3));
        x.joint(1, 1, 0, 99);
        x.play(1);
        x.go(24);
        due("a bridge takes its joint, whatever its most is", "0 0 1", () -> x.now(0) + " " + x.now(1) + " " + x.now(2));
    }

    private static void now() {
        promise = "15 now";
        MoodPlayer x = five();
        x.joint(0, 4, 1, 0);
        x.piece(LAYER, 1, 24, 0, 1);
        x.play(0);
        x.layer(3, 2);
        x.layer(5, 2);
        x.sting(4);
        x.sting(4);
        x.ask(1);
        x.go(59);
        due("all", "0 2 1 11 1 4 1 3 2 6 1", () -> nows(x));
        due("what -1", NO_ELEMENT, () -> x.now(-1));
        due("what 11", NO_ELEMENT, () -> x.now(11));
        due("the least what", NO_ELEMENT, () -> x.now(Integer.MIN_VALUE));
    }

    private static void level() {
        promise = "16 level";
        MoodPlayer x = five();
        x.layer(3, 8);
        due("at first", 0, () -> x.level(3));
        x.play(0);
        x.go(192);
        due("a layer", 4, () -> x.level(3));
        due("a loop", 0, () -> x.level(0));
        due("a bridge", 0, () -> x.level(2));
        due("a sting", 0, () -> x.level(4));
        due("no piece", NO_ELEMENT, () -> x.level(5));
        due("-1", NO_ELEMENT, () -> x.level(-1));
        due("20", NO_ELEMENT, () -> x.level(20));
    }

    private static void log() {
        promise = "17 log";
        MoodPlayer x = new MoodPlayer();
        x.piece(LOOP, 1, 24, 0, 1);
        x.play(0);
        x.go(24 * 298);
        due("not full", 299, () -> x.now(8));
        due("the eldest", "0:0:0", () -> event(x, 0));
        x.go(24);
        due("full", 300, () -> x.now(8));
        due("the eldest yet", "0:0:0", () -> event(x, 0));
        x.go(24);
        due("the latest 300 are kept", 300, () -> x.now(8));
        due("the eldest is gone", "24:3:0", () -> event(x, 0));
        due("the latest", "7200:3:0", () -> event(x, 299));
        x.go(20000 - 7200);
        due("many more", 300, () -> x.now(8));
        due("the eldest of many", "12816:3:0", () -> event(x, 0));
        due("the latest of many", "19992:3:0", () -> event(x, 299));
        due("event 300", NO_ELEMENT, () -> x.log(300, 0));
        due("event -1", NO_ELEMENT, () -> x.log(-1, 0));
        due("what 3", NO_ELEMENT, () -> x.log(0, 3));
        due("what -1", NO_ELEMENT, () -> x.log(0, -1));

        MoodPlayer y = five();
        y.joint(0, 4, 1, 0);
        y.play(0);
        due("one event", "0:0:0", () -> events(y, 0));
        due("event 1", NO_ELEMENT, () -> y.log(1, 0));
        y.ask(1);
        y.sting(4);
        y.go(48);
        y.sting(4);
        y.go(48);
        due("a sting ends, then a joint, the mood, the next sting",
            "0:0:0 24:5:4 72:6:4 96:1:0 96:4:1 96:5:4", () -> events(y, 0));
    }

    private static void keep() {
        promise = "18 keep";
        MoodPlayer x = five();
        due("slot -1", BAD_ARGUMENT, () -> x.keep(-1));
        due("slot 4", BAD_ARGUMENT, () -> x.keep(4));
        due("nothing was in it", false, () -> x.keep(0));
        due("something was", true, () -> x.keep(0));
        due("nothing was in the last", false, () -> x.keep(3));
        x.play(0);
        x.go(30);
        due("kept anew", true, () -> x.keep(0));
        due("keeping changes nothing", "0 1 1 6 -1 -1 0 0 1 5 0", () -> nows(x));
        x.go(30);
        due("the silence", true, () -> x.goOn(3));
        due("silence", "-1 0 0 0", () -> x.now(0) + " " + x.now(1) + " " + x.now(2) + " " + x.now(3));
        due("its time", 0, () -> x.go(0));
        due("the latest that was kept there", true, () -> x.goOn(0));
        due("in the middle of a beat", "0 1 1 6", () -> x.now(0) + " " + x.now(1) + " " + x.now(2) + " " + x.now(3));
    }

    private static void goOn() {
        promise = "19 goOn";
        MoodPlayer x = five();
        x.joint(0, 4, 1, 50);
        due("slot -1", BAD_ARGUMENT, () -> x.goOn(-1));
        due("slot 4", BAD_ARGUMENT, () -> x.goOn(4));
        due("nothing is in it", false, () -> x.goOn(2));
        x.play(0);
        x.layer(3, 3);
        x.sting(4);
        x.sting(4);
        x.ask(1);
        x.go(55);
        x.keep(2);
        x.sting(4);
        x.layer(3, 0);
        x.leave();
        x.go(500);
        x.layer(x.piece(LAYER, 1, 24, 0, 1), 8);
        x.go(96);
        due("a level of a layer that came later", 2, () -> x.level(5));
        x.joint(0, 3, 1, 0);
        x.price(1, 7);
        int events = x.now(8);
        due("it goes on", true, () -> x.goOn(2));
        due("all as it was, but the log, the pieces and the joints", "0 2 1 7 1 4 1 1 " + events + " 6 2", () -> nows(x));
        due("the time as it was", 55, () -> x.go(0));
        due("the layer as it was", "1 0", () -> x.level(3) + " " + x.level(5));
        due("the way is found anew", "1", () -> row(x));
        due("at the price of now", 7 * 17, () -> x.cost());
        x.go(17);
        due("the sting was over by the time that is left of it, the new joint was taken",
            "72:6:4 72:1:1 72:4:1 72:5:4", () -> events(x, events));
        due("the layer is on as it was, the other off", "3 0", () -> x.layer(3, 8) + " " + x.layer(5, 0));
        due("a second time", true, () -> x.goOn(2));
        due("the slot is as it was", "0 2 1 7 1 4 1 1 " + (events + 4) + " 6 2", () -> nows(x));
        due("an empty slot", false, () -> x.goOn(1));
        due("changes nothing", "0 2 1 7 1 4 1 1 " + (events + 4) + " 6 2", () -> nows(x));
        due("prices stay as they are", 7, () -> x.price(1, 1));

        MoodPlayer y = five();
        y.joint(0, 4, 1, 50);
        y.keep(0);
        y.play(0);
        y.ask(1);
        due("a way", "0", () -> row(y));
        y.goOn(0);
        due("no mood is open, no way", "none -1 -1", () -> row(y) + " " + y.now(4) + " " + y.now(0));
        y.ask(1);
        y.keep(1);
        y.play(0);
        y.goOn(1);
        due("a mood open in silence", "none 1 -1", () -> row(y) + " " + y.now(4) + " " + y.now(0));
        y.play(0);
        due("a way when something plays", "0", () -> row(y));
    }
}
