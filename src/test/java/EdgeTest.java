/** The sentences of promises 1 to 19 that name a boundary case, each with a test of its own. */
public final class EdgeTest extends Check {
    private static final int[] NO_MOODS = {-1, 8, LEAST, HIGHEST};
    /** No pieces of an object that has five. */
    private static final int[] NO_PIECES = {-1, 5, 20, 100, LEAST, HIGHEST};

    public static void main(String[] args) {
        check(EdgeTest::newObject);
        check(EdgeTest::pieceNumber);
        check(EdgeTest::pieceNone);
        check(EdgeTest::jointNumber);
        check(EdgeTest::jointNone);
        check(EdgeTest::jointNoPieces);
        check(EdgeTest::priceWas);
        check(EdgeTest::priceWrong);
        check(EdgeTest::playBegins);
        check(EdgeTest::playFalse);
        check(EdgeTest::playNoPiece);
        check(EdgeTest::askReplaces);
        check(EdgeTest::askSteps);
        check(EdgeTest::askNone);
        check(EdgeTest::askMet);
        check(EdgeTest::askWrong);
        check(EdgeTest::leaveWhich);
        check(EdgeTest::wayLeft);
        check(EdgeTest::wayCount);
        check(EdgeTest::wayNoStep);
        check(EdgeTest::costLeft);
        check(EdgeTest::costNone);
        check(EdgeTest::reachLeastTime);
        check(EdgeTest::reachHasIt);
        check(EdgeTest::reachNone);
        check(EdgeTest::reachWrong);
        check(EdgeTest::lacksPair);
        check(EdgeTest::lacksNone);
        check(EdgeTest::lacksWrong);
        check(EdgeTest::layerTop);
        check(EdgeTest::layerNone);
        check(EdgeTest::layerNoPiece);
        check(EdgeTest::stingWaits);
        check(EdgeTest::stingNone);
        check(EdgeTest::stingNoPiece);
        check(EdgeTest::goTime);
        check(EdgeTest::goWrong);
        check(EdgeTest::nowWhats);
        check(EdgeTest::nowWrong);
        check(EdgeTest::levelOf);
        check(EdgeTest::levelNoPiece);
        check(EdgeTest::logEldest);
        check(EdgeTest::logWrong);
        check(EdgeTest::keepWas);
        check(EdgeTest::keepWrong);
        check(EdgeTest::goOnTrue);
        check(EdgeTest::goOnFalse);
        check(EdgeTest::goOnWrong);
        end("the promises' edges hold");
    }

    /** 0 a loop of 4 beats, 1 a loop of 2 with mood 0, 2 a bridge of 3, 3 a layer, 4 a sting. */
    private static MoodPlayer five() {
        MoodPlayer x = new MoodPlayer();
        x.piece(LOOP, 4, 24, 0, 9);
        x.piece(LOOP, 2, 24, 1, 9);
        x.piece(BRIDGE, 3, 24, 0, 1);
        x.piece(LAYER, 1, 24, 0, 1);
        x.piece(STING, 1, 24, 0, 1);
        return x;
    }

    private static void newObject() {
        sentence("No PIECES, SILENCE, TIME 0.");
        MoodPlayer x = new MoodPlayer();
        is("-1 0 0 0 -1 -1 0 0 0 0 0", nows(x, 0, 1, 2, 3, 4, 5, 6, 7, 8, 9, 10));
        is(0, x.go(0));
        noElement(() -> x.play(0));
        noElement(() -> x.level(0));
        noElement(() -> x.layer(0, 1));
        noElement(() -> x.sting(0));
        noElement(() -> x.joint(0, 1, 0, 0));
        noElement(() -> x.reach(0, 0));
        noElement(() -> x.lacks(0, 0));
        noElement(() -> x.log(0, 0));
        noElement(() -> x.way(0));
        is("-1 -1 -1", x.way(NONE) + " " + x.cost() + " " + x.leave());
        is("false false false false", x.goOn(0) + " " + x.goOn(1) + " " + x.goOn(2) + " " + x.goOn(3));
        MoodPlayer y = five();
        y.play(0);
        y.go(30);
        is("-1 0 0 0 -1 -1 0 0 0 0 0", nows(new MoodPlayer(), 0, 1, 2, 3, 4, 5, 6, 7, 8, 9, 10));
        is(-1, MoodPlayer.NONE);
    }

    // ---- pieces, joints, prices ----

    private static void pieceNumber() {
        sentence("A PIECE: its number.");
        MoodPlayer x = new MoodPlayer();
        is(0, x.piece(STING, 1, 24, 0, 1));
        is(NONE, x.piece(STING, 1, 24, 1, 1));
        is(1, x.piece(LOOP, 1, 24, 0, 1));
        x.play(1);
        is(2, x.piece(LOOP, 1, 24, 0, 1));
    }

    private static void pieceNone() {
        sentence("NONE: there are 20, or a number is not as told (MOODS of LAYERS, STINGS must be 0; of others any of 0 to 255).");
        MoodPlayer x = new MoodPlayer();
        for (int kind = LOOP; kind <= STING; kind++) {
            int[] wrongMoods = kind <= BRIDGE ? new int[] {-1, 256} : new int[] {-1, 1, 128, 255, 256};
            for (int moods : wrongMoods) {
                is(NONE, x.piece(kind, 1, 24, moods, 1));
            }
            is(NONE, x.piece(kind, 0, 24, 0, 1));
            is(NONE, x.piece(kind, 1, 23, 0, 1));
            is(NONE, x.piece(kind, 1, 24, 0, 0));
            is(NONE, x.piece(kind, 65, 2401, 256, 10));
        }
        is(NONE, x.piece(-1, 1, 24, 0, 1));
        is(NONE, x.piece(4, 1, 24, 0, 1));
        is(0, x.now(9));
        for (int i = 0; i < 20; i++) {
            is(i, x.piece(i % 2, 1, 24, i * 255 / 19, 1));
        }
        is(NONE, x.piece(LOOP, 1, 24, 0, 1));
        is(NONE, x.piece(LOOP, 0, 24, 0, 1));
        is(20, x.now(9));
    }

    private static void jointNumber() {
        sentence("A JOINT: its number.");
        MoodPlayer x = five();
        is(0, x.joint(2, 3, 1, 0));
        is(NONE, x.joint(2, 3, 1, 0));
        is(1, x.joint(0, 1, 2, 0));
        x.play(0);
        is(2, x.ask(0));
        is("1 0", x.way(0) + " " + x.way(1));
    }

    private static void jointNone() {
        sentence("NONE: there are 100, one like it, or a number is not as told.");
        MoodPlayer x = five();
        x.joint(0, 1, 1, 5);
        int[][] refused = {
            {0, 1, 1, 5}, {0, 1, 1, 99}, {0, 0, 1, 5}, {0, 5, 1, 5}, {2, 4, 1, 5}, {0, 2, 1, -1}, {0, 2, 1, 100}, {3, 1, 0, 0},
            {4, 1, 0, 0}, {0, 1, 3, 0}, {0, 1, 4, 0}, {3, 1, 4, 0}, {3, 0, 3, 100}};
        for (int[] r : refused) {
            is(NONE, x.joint(r[0], r[1], r[2], r[3]));
        }
        is(1, x.now(10));
        is(1, x.joint(0, 4, 1, 99));
        MoodPlayer y = new MoodPlayer();
        y.piece(BRIDGE, 64, 24, 0, 1);
        y.piece(BRIDGE, 64, 24, 0, 1);
        for (int i = 0; i < 100; i++) {
            is(i, y.joint(i % 2, i / 2 + 1, 0, i));
        }
        is(NONE, y.joint(0, 64, 0, 0));
        is(NONE, y.joint(0, 1, 0, 0));
        is(NONE, y.joint(0, 65, 0, 0));
        is(100, y.now(10));
    }

    private static void jointNoPieces() {
        sentence("NoSuchElementException: no such PIECES (as everywhere).");
        MoodPlayer x = five();
        for (int no : NO_PIECES) {
            noElement(() -> x.joint(no, 1, 0, 0));
            noElement(() -> x.joint(0, 1, no, 0));
            noElement(() -> x.joint(no, 1, no, 0));
        }
        is(0, x.now(10));
        is(0, x.joint(0, 1, 2, 0));
        x.piece(BRIDGE, 1, 24, 0, 1);
        is(1, x.joint(5, 1, 0, 0));
        noElement(() -> x.joint(6, 1, 0, 0));
    }

    private static void priceWas() {
        sentence("A PRICE: what it was.");
        MoodPlayer x = new MoodPlayer();
        is("10 1", x.price(0, 99) + " " + x.price(1, 0));
        is("99 0", x.price(0, 0) + " " + x.price(1, 99));
        is("0 99", x.price(0, 50) + " " + x.price(1, 51));
        is("50 51", x.price(0, 50) + " " + x.price(1, 51));
    }

    private static void priceWrong() {
        sentence("IllegalArgumentException: no such PRICE, v is not 0 to 99.");
        MoodPlayer x = new MoodPlayer();
        for (int what : new int[] {-1, 2, LEAST, HIGHEST}) {
            badArgument(() -> x.price(what, 5));
            badArgument(() -> x.price(what, 100));
        }
        for (int v : new int[] {-1, 100, LEAST, HIGHEST}) {
            badArgument(() -> x.price(0, v));
            badArgument(() -> x.price(1, v));
        }
        is("10 1", x.price(0, 0) + " " + x.price(1, 0));
    }

    // ---- what plays, and the mood ----

    private static void playBegins() {
        sentence("A PIECE PLAYS from its beginning, now (TURNS 1; an open MOOD that it has is MET): true.");
        MoodPlayer x = five();
        is(true, x.play(0));
        x.go(100);
        is("0 0 2 4", plays(x));
        is(true, x.play(0));
        is("0 0 1 0", plays(x));
        x.go(23);
        is("0 0 1 23", plays(x));
        x.go(1);
        is("0 1 1 0", plays(x));
        x.ask(0);
        is(true, x.play(2));
        is(0, x.now(4));
        is(true, x.play(1));
        is(NONE, x.now(4));
        is("124:0:2 124:0:1 124:4:0", log(x, 3));
        x.go(48);
        is("1 0 2 0", plays(x));
        x.ask(7);
        is(true, x.play(1));
        is("7 1", nows(x, 4, 2));
        x.play(2);
        x.go(72);
        is(NONE, x.now(0));
        is(true, x.play(2));
        is("2 0 1 0", plays(x));
    }

    private static void playFalse() {
        sentence("False: it is a LAYER or STING.");
        MoodPlayer x = five();
        is(false, x.play(3));
        is(false, x.play(4));
        is("-1 0", nows(x, 0, 8));
        x.play(0);
        x.go(30);
        is(false, x.play(3));
        is(false, x.play(4));
        is("0 1 1 6", plays(x));
        is("1 -1 0 0", nows(x, 8, 5, 6, 7));
    }

    private static void playNoPiece() {
        sentence("play: no such PIECES (as everywhere)");
        MoodPlayer x = five();
        x.play(0);
        x.go(30);
        for (int no : NO_PIECES) {
            noElement(() -> x.play(no));
        }
        is("0 1 1 6", plays(x));
        is(1, x.now(8));
    }

    private static void askReplaces() {
        sentence("A MOOD is ASKED for (one that was open is no more)");
        MoodPlayer x = five();
        x.piece(LOOP, 1, 24, 2, 1);
        x.joint(0, 1, 1, 0);
        x.joint(0, 2, 5, 0);
        x.play(0);
        x.ask(0);
        is("0 0", way(x) + " " + x.now(4));
        x.ask(1);
        is("1 1", way(x) + " " + x.now(4));
        x.go(24);
        is("0 1", nows(x, 0, 1));
        x.ask(7);
        is("none 7", way(x) + " " + x.now(4));
        x.play(1);
        is(7, x.now(4));
        x.ask(0);
        is(NONE, x.now(4));
        is("24:4:0", lastEvent(x));
        is(NONE, x.leave());
    }

    private static void askSteps() {
        sentence("how many steps THE WAY has");
        MoodPlayer x = new MoodPlayer();
        for (int i = 0; i < 20; i++) {
            x.piece(LOOP, 2, 24, i == 19 ? 1 : 0, 1);
        }
        for (int i = 0; i < 19; i++) {
            x.joint(i, 1, i + 1, 0);
        }
        x.play(18);
        is(1, x.ask(0));
        x.play(0);
        is(19, x.ask(0));
        x.leave();
        x.go(24);
        is(20, x.ask(0));
        is("100 0 18", x.way(0) + " " + x.way(1) + " " + x.way(19));
        x.go(24 + 19 * 24);
        is("19 -1", nows(x, 0, 4));
    }

    private static void askNone() {
        sentence("NONE: there is none (it stays open).");
        MoodPlayer x = five();
        is(NONE, x.ask(0));
        is(0, x.now(4));
        x.play(0);
        is(NONE, x.ask(0));
        is(0, x.now(4));
        is(NONE, x.ask(7));
        is(7, x.now(4));
        is(1, x.now(8));
    }

    private static void askMet() {
        sentence("With what PLAYS having it: 0, and it is MET at once.");
        MoodPlayer x = new MoodPlayer();
        x.piece(LOOP, 1, 24, 129, 1);
        x.play(0);
        x.go(12);
        is(0, x.ask(0));
        is(NONE, x.now(4));
        is(0, x.ask(7));
        is("12:4:0 12:4:7", log(x, 1));
        is(NONE, x.ask(6));
        is(0, x.ask(0));
        is("-1 -1", x.leave() + " " + x.way(NONE));
        MoodPlayer y = new MoodPlayer();
        y.piece(LOOP, 2, 24, 1, 9);
        y.piece(LOOP, 1, 24, 2, 1);
        y.joint(0, 1, 1, 0);
        y.play(0);
        is(1, y.ask(1));
        is(0, y.ask(0));
        is("none -1", way(y) + " " + y.cost());
        y.go(48);
        is("0 0 2 0", plays(y));
    }

    private static void askWrong() {
        sentence("IllegalArgumentException: no such MOOD (0 to 7).");
        MoodPlayer x = five();
        x.joint(0, 4, 1, 0);
        x.play(0);
        x.ask(0);
        for (int no : NO_MOODS) {
            badArgument(() -> x.ask(no));
        }
        is("0 0", way(x) + " " + x.now(4));
        is("-1 -1", x.ask(1) + " " + x.ask(7));
    }

    private static void leaveWhich() {
        sentence("No MOOD is open any more: which was; NONE.");
        MoodPlayer x = five();
        is(NONE, x.leave());
        x.ask(7);
        is(7, x.leave());
        is(NONE, x.leave());
        x.joint(0, 4, 1, 0);
        x.play(0);
        x.ask(0);
        is(0, x.leave());
        is("none -1 -1", way(x) + " " + x.cost() + " " + x.now(4));
        x.go(96);
        is("0 0 2 0", plays(x));
        is("0:0:0 96:3:0", log(x, 0));
    }

    private static void wayLeft() {
        sentence("The i-th step of THE WAY that is left (a JOINT, or 100)");
        MoodPlayer x = five();
        x.joint(0, 2, 2, 0);
        x.joint(2, 3, 1, 0);
        x.play(0);
        x.go(48);
        x.ask(0);
        is("100 0 1", x.way(0) + " " + x.way(1) + " " + x.way(2));
        x.go(47);
        is("100 0 1", way(x));
        x.go(1);
        is("0 1", x.way(0) + " " + x.way(1));
        x.go(48);
        is("1", way(x));
        x.go(71);
        is("1", way(x));
        x.go(1);
        is("none", way(x));
    }

    private static void wayCount() {
        sentence("i NONE: how many (NONE: there is none, or no MOOD is open).");
        MoodPlayer x = five();
        is(NONE, x.way(-1));
        x.play(0);
        is(NONE, x.way(NONE));
        x.ask(0);
        is(NONE, x.way(NONE));
        x.joint(0, 4, 1, 0);
        is(1, x.way(NONE));
        x.leave();
        is(NONE, x.way(NONE));
        x.play(1);
        x.ask(0);
        is(NONE, x.way(NONE));
    }

    private static void wayNoStep() {
        sentence("NoSuchElementException: there is none such.");
        MoodPlayer x = five();
        noElement(() -> x.way(0));
        x.joint(0, 2, 2, 0);
        x.joint(2, 3, 1, 0);
        x.play(0);
        noElement(() -> x.way(0));
        is(2, x.ask(0));
        for (int no : new int[] {2, 3, 100, -2, LEAST, HIGHEST}) {
            noElement(() -> x.way(no));
        }
        is(1, x.way(1));
        x.go(48);
        is(1, x.way(0));
        noElement(() -> x.way(1));
        noElement(() -> x.way(HIGHEST));
        x.go(72);
        noElement(() -> x.way(0));
    }

    private static void costLeft() {
        sentence("COST of THE WAY that is left, from now on");
        MoodPlayer x = five();
        x.joint(0, 2, 2, 1);
        x.joint(2, 3, 1, 2);
        x.price(1, 2);
        x.play(0);
        x.ask(0);
        is(72 + 2 * 120, x.cost());
        x.go(47);
        is(72 + 2 * 73, x.cost());
        x.go(1);
        is(48 + 2 * 72, x.cost());
        x.go(71);
        is(48 + 2, x.cost());
        x.go(1);
        is(NONE, x.cost());
        MoodPlayer y = new MoodPlayer();
        for (int i = 0; i < 20; i++) {
            y.piece(LOOP, 64, 2400, i == 19 ? 1 : 0, 1);
        }
        for (int i = 0; i < 19; i++) {
            y.joint(i, 64, i + 1, 99);
        }
        y.price(0, 99);
        y.price(1, 99);
        y.play(0);
        y.ask(0);
        is(19L * (24 * 99 + 99 * 64 * 2400), y.cost());
        is(19L * 64 * 2400, y.reach(0, 0));
    }

    private static void costNone() {
        sentence("cost: NONE: there is none.");
        MoodPlayer x = five();
        is(NONE, x.cost());
        x.ask(0);
        is(NONE, x.cost());
        x.play(0);
        is(NONE, x.cost());
        x.joint(0, 4, 1, 0);
        is(96, x.cost());
        x.price(1, 0);
        is(0, x.cost());
        x.leave();
        is(NONE, x.cost());
    }

    private static void reachLeastTime() {
        sentence("The least time in which a MOOD can be come to from a PIECE's beginning, by JOINTS and AGAIN");
        MoodPlayer x = new MoodPlayer();
        x.piece(LOOP, 4, 30, 0, 1);
        x.piece(BRIDGE, 2, 40, 0, 1);
        x.piece(LOOP, 1, 24, 1, 1);
        x.joint(0, 4, 2, 0);
        is(120, x.reach(0, 0));
        x.joint(0, 1, 1, 99);
        x.joint(1, 2, 2, 99);
        is(110, x.reach(0, 0));
        x.joint(0, 3, 2, 99);
        is(90, x.reach(0, 0));
        is(80, x.reach(1, 0));
        x.play(0);
        x.go(100);
        x.price(0, 99);
        x.price(1, 0);
        is(90, x.reach(0, 0));
        x.joint(0, 1, 2, 99);
        is(30, x.reach(0, 0));
    }

    private static void reachHasIt() {
        sentence("(0 if it has it)");
        MoodPlayer x = new MoodPlayer();
        x.piece(LOOP, 1, 24, 128, 1);
        x.piece(BRIDGE, 1, 24, 1, 1);
        x.joint(0, 1, 0, 0);
        is(0, x.reach(0, 7));
        is(0, x.reach(1, 0));
    }

    private static void reachNone() {
        sentence("reach: NONE: it can't.");
        MoodPlayer x = five();
        is(NONE, x.reach(0, 0));
        is(NONE, x.reach(0, 7));
        x.joint(0, 1, 2, 0);
        x.joint(2, 1, 0, 0);
        x.joint(1, 1, 0, 0);
        is(NONE, x.reach(0, 0));
        is(NONE, x.reach(2, 0));
        x.joint(2, 3, 1, 0);
        is(72, x.reach(2, 0));
        is(96, x.reach(0, 0));
    }

    private static void reachWrong() {
        sentence("IllegalArgumentException: no such MOOD. NoSuchElementException: it is no LOOP or BRIDGE.");
        MoodPlayer x = five();
        for (int no : NO_MOODS) {
            badArgument(() -> x.reach(0, no));
            badArgument(() -> x.reach(2, no));
        }
        noElement(() -> x.reach(3, 0));
        noElement(() -> x.reach(4, 0));
        for (int no : NO_PIECES) {
            noElement(() -> x.reach(no, 0));
        }
        String both = told(() -> x.reach(3, 8));
        is(true, both.equals("NoSuchElementException") || both.equals("IllegalArgumentException"));
    }

    private static void lacksPair() {
        sentence("What lacks: of all pairs of a PIECE that can be come to from a PIECE's beginning (itself, too), and one that "
            + "has the MOOD, the first (the first one's number, then the other's): 100 times the one, and the other");
        MoodPlayer x = new MoodPlayer();
        for (int i = 0; i < 20; i++) {
            x.piece(i % 2, 2, 24, i == 18 || i == 19 ? 128 : i == 0 ? 1 : 0, 1);
        }
        is(1718, x.lacks(17, 7));
        is(18, x.lacks(0, 7));
        is(1900, x.lacks(19, 0));
        x.joint(17, 2, 16, 0);
        is(1618, x.lacks(17, 7));
        is(1618, x.lacks(16, 7));
        x.joint(16, 1, 17, 0);
        x.joint(3, 1, 16, 0);
        is(1618, x.lacks(16, 7));
        is(318, x.lacks(3, 7));
        x.joint(17, 1, 0, 0);
        is(18, x.lacks(3, 7));
        is("-1 -1", x.lacks(3, 0) + " " + x.lacks(17, 0));
    }

    private static void lacksNone() {
        sentence("lacks: NONE: the MOOD can be come to, or no PIECE has it.");
        MoodPlayer x = five();
        is(NONE, x.lacks(0, 7));
        is(NONE, x.lacks(2, 7));
        is(NONE, x.lacks(1, 0));
        is(1, x.lacks(0, 0));
        x.joint(0, 4, 1, 99);
        is(NONE, x.lacks(0, 0));
        is(201, x.lacks(2, 0));
        x.joint(2, 1, 0, 0);
        is(NONE, x.lacks(2, 0));
    }

    private static void lacksWrong() {
        sentence("lacks: Exceptions likewise.");
        MoodPlayer x = five();
        for (int no : NO_MOODS) {
            badArgument(() -> x.lacks(0, no));
            badArgument(() -> x.lacks(2, no));
        }
        noElement(() -> x.lacks(3, 0));
        noElement(() -> x.lacks(4, 0));
        for (int no : NO_PIECES) {
            noElement(() -> x.lacks(no, 0));
        }
        String both = told(() -> x.lacks(3, 8));
        is(true, both.equals("NoSuchElementException") || both.equals("IllegalArgumentException"));
    }

    // ---- layers and stings ----

    private static void layerTop() {
        sentence("A LAYER is ON with a TOP (1 to 8), or OFF (0): what TOP it had (0: it was OFF).");
        MoodPlayer x = five();
        is(0, x.layer(3, 1));
        is(1, x.layer(3, 8));
        is(8, x.layer(3, 0));
        is(0, x.layer(3, 0));
        is(0, x.layer(3, 8));
        x.play(0);
        x.go(24 * 8);
        is(8, x.level(3));
        x.go(24);
        is(8, x.level(3));
        x.layer(3, 0);
        x.go(24);
        is(7, x.level(3));
        is(0, x.layer(3, 1));
    }

    private static void layerNone() {
        sentence("NONE: it is no LAYER, top is not 0 to 8.");
        MoodPlayer x = five();
        x.layer(3, 4);
        for (int piece : new int[] {0, 1, 2, 4}) {
            is(NONE, x.layer(piece, 1));
            is(NONE, x.layer(piece, 0));
        }
        for (int top : new int[] {-1, 9, LEAST, HIGHEST}) {
            is(NONE, x.layer(3, top));
        }
        is(4, x.layer(3, 0));
    }

    private static void layerNoPiece() {
        sentence("layer: no such PIECES (as everywhere)");
        MoodPlayer x = five();
        for (int no : NO_PIECES) {
            noElement(() -> x.layer(no, 1));
            noElement(() -> x.layer(no, 9));
        }
    }

    private static void stingWaits() {
        sentence("A STING waits: how many do.");
        MoodPlayer x = five();
        is("1 2 3 4", x.sting(4) + " " + x.sting(4) + " " + x.sting(4) + " " + x.sting(4));
        x.play(0);
        x.go(24);
        is("4 3", stings(x));
        is(4, x.sting(4));
    }

    private static void stingNone() {
        sentence("NONE: it is none, or 4 wait.");
        MoodPlayer x = five();
        for (int piece = 0; piece <= 3; piece++) {
            is(NONE, x.sting(piece));
        }
        is(0, x.now(6));
        for (int i = 1; i <= 4; i++) {
            x.sting(4);
        }
        is(NONE, x.sting(4));
        is(NONE, x.sting(0));
        is(4, x.now(6));
    }

    private static void stingNoPiece() {
        sentence("sting: no such PIECES (as everywhere)");
        MoodPlayer x = five();
        for (int no : NO_PIECES) {
            noElement(() -> x.sting(no));
        }
        for (int i = 1; i <= 4; i++) {
            x.sting(4);
        }
        noElement(() -> x.sting(5));
        is(4, x.now(6));
    }

    // ---- time, and what can be looked at ----

    private static void goTime() {
        sentence("n 24ths go by (all whose time comes up to then, that too): TIME.");
        MoodPlayer x = five();
        is(20000, x.go(20000));
        x.play(2);
        is(20000, x.go(0));
        is("2 0 1 0", plays(x));
        is(20023, x.go(23));
        is("2 0 1 23", plays(x));
        is(20024, x.go(1));
        is("2 1 1 0", plays(x));
        is(20024, x.go(0));
        is("2 1 1 0", plays(x));
        is(20071, x.go(47));
        is("2 2 1 23", plays(x));
        is(20072, x.go(1));
        is("20072:7:2", lastEvent(x));
        MoodPlayer y = five();
        y.play(0);
        is(20000, y.go(20000));
        is("0 1 209 8", plays(y));
        MoodPlayer z = five();
        z.play(0);
        for (int i = 0; i < 400; i++) {
            z.go(50);
        }
        is("0 1 209 8", plays(z));
        is(lastEvent(y), lastEvent(z));
    }

    private static void goWrong() {
        sentence("IllegalArgumentException: n is not 0 to 20,000.");
        MoodPlayer x = five();
        x.play(0);
        x.go(30);
        for (int n : new int[] {-1, 20001, LEAST, HIGHEST}) {
            badArgument(() -> x.go(n));
        }
        is(30, x.go(0));
        is("0 1 1 6", plays(x));
    }

    private static void nowWhats() {
        sentence("0 what PLAYS (NONE), 1 BEATS DONE, 2 TURNS (0 in SILENCE), 3 24ths of the BEAT that are over, 4 the MOOD that is "
            + "open (NONE), 5 the STING that SOUNDS (NONE), 6 STINGS that wait, 7 all LEVELS together, 8 events in THE LOG that "
            + "are kept, 9 PIECES, 10 JOINTS.");
        MoodPlayer x = five();
        x.piece(LAYER, 2, 24, 0, 1);
        x.joint(2, 3, 1, 0);
        x.joint(2, 3, 2, 0);
        is("-1 0 0 0 -1 -1 0 0 0 6 2", nows(x, 0, 1, 2, 3, 4, 5, 6, 7, 8, 9, 10));
        x.play(2);
        x.go(72);
        is("1 0 1 0 -1 -1 0 0 2 6 2", nows(x, 0, 1, 2, 3, 4, 5, 6, 7, 8, 9, 10));
        x.play(0);
        x.layer(3, 8);
        x.layer(5, 8);
        x.sting(4);
        x.sting(4);
        x.ask(7);
        x.go(96 + 24 + 17);
        is("0 1 2 17 7 -1 0 7 8 6 2", nows(x, 0, 1, 2, 3, 4, 5, 6, 7, 8, 9, 10));
        x.sting(4);
        x.sting(4);
        x.sting(4);
        x.go(7);
        is("0 2 2 0 7 4 2 9 9 6 2", nows(x, 0, 1, 2, 3, 4, 5, 6, 7, 8, 9, 10));
        MoodPlayer y = five();
        y.play(2);
        y.layer(3, 8);
        y.ask(6);
        y.go(72 + 5);
        is("-1 0 0 0 6 -1 0 0 2 5 0", nows(y, 0, 1, 2, 3, 4, 5, 6, 7, 8, 9, 10));
    }

    private static void nowWrong() {
        sentence("NoSuchElementException: another what.");
        MoodPlayer x = five();
        for (int what : new int[] {-1, 11, 12, LEAST, HIGHEST}) {
            noElement(() -> x.now(what));
        }
    }

    private static void levelOf() {
        sentence("The LEVEL of a LAYER (0 of others).");
        MoodPlayer x = five();
        x.layer(3, 5);
        is("0 0 0 0 0", levels(x, 0, 1, 2, 3, 4));
        x.sting(4);
        x.play(0);
        x.go(48);
        is("0 0 0 2 0", levels(x, 0, 1, 2, 3, 4));
    }

    private static void levelNoPiece() {
        sentence("level: no such PIECES (as everywhere)");
        MoodPlayer x = five();
        for (int no : NO_PIECES) {
            noElement(() -> x.level(no));
        }
        x.piece(LAYER, 1, 24, 0, 1);
        is(0, x.level(5));
        noElement(() -> x.level(6));
    }

    private static void logEldest() {
        sentence("Of the i-th event that is kept in THE LOG (0 the eldest): 0 its time, 1 what, 2 the number.");
        MoodPlayer x = five();
        x.go(3);
        x.play(2);
        x.play(1);
        is("3 0 2", x.log(0, 0) + " " + x.log(0, 1) + " " + x.log(0, 2));
        is("3 0 1", x.log(1, 0) + " " + x.log(1, 1) + " " + x.log(1, 2));
        x.go(48 * 299);
        is(300, x.now(8));
        is("3 0 1", x.log(0, 0) + " " + x.log(0, 1) + " " + x.log(0, 2));
        x.go(48);
        is("51 3 1", x.log(0, 0) + " " + x.log(0, 1) + " " + x.log(0, 2));
        is("14403 3 1", x.log(299, 0) + " " + x.log(299, 1) + " " + x.log(299, 2));
    }

    private static void logWrong() {
        sentence("NoSuchElementException: there is none, another what.");
        MoodPlayer x = five();
        noElement(() -> x.log(0, 0));
        x.play(0);
        x.play(1);
        for (int i : new int[] {-1, 2, 300, LEAST, HIGHEST}) {
            noElement(() -> x.log(i, 0));
        }
        for (int what : new int[] {-1, 3, LEAST, HIGHEST}) {
            noElement(() -> x.log(0, what));
            noElement(() -> x.log(1, what));
            noElement(() -> x.log(2, what));
        }
        is("0 1", x.log(0, 2) + " " + x.log(1, 2));
    }

    // ---- slots ----

    private static void keepWas() {
        sentence("All is KEPT in a SLOT (0 to 3): whether there was something.");
        MoodPlayer x = five();
        is("false true true", x.keep(0) + " " + x.keep(0) + " " + x.keep(0));
        is("false false false", x.keep(1) + " " + x.keep(2) + " " + x.keep(3));
        x.goOn(3);
        is("true true", x.keep(3) + " " + x.keep(1));
        x.play(0);
        x.go(30);
        x.keep(1);
        is("0 1 1 6", plays(x));
        x.play(2);
        x.goOn(1);
        is("0 1 1 6", plays(x));
    }

    private static void keepWrong() {
        sentence("keep: IllegalArgumentException: no such SLOT.");
        MoodPlayer x = five();
        for (int no : new int[] {-1, 4, 5, LEAST, HIGHEST}) {
            badArgument(() -> x.keep(no));
        }
        is("false false false false", x.goOn(0) + " " + x.goOn(1) + " " + x.goOn(2) + " " + x.goOn(3));
    }

    private static void goOnTrue() {
        sentence("All goes on from a SLOT: true.");
        MoodPlayer x = five();
        x.keep(0);
        x.play(0);
        x.go(30);
        x.keep(3);
        x.play(2);
        is(true, x.goOn(3));
        is("0 1 1 6", plays(x));
        is(true, x.goOn(0));
        is("-1 0 0 0", plays(x));
        is(0, x.go(0));
        is(true, x.goOn(3));
        is("0 1 1 6", plays(x));
        x.go(18);
        is("0 2 1 0", plays(x));
        is(true, x.goOn(3));
        is(30, x.go(0));
    }

    private static void goOnFalse() {
        sentence("False: nothing is in it.");
        MoodPlayer x = five();
        x.play(0);
        x.go(30);
        x.keep(1);
        x.go(5);
        is("false false false", x.goOn(0) + " " + x.goOn(2) + " " + x.goOn(3));
        is("0 1 1 11", plays(x));
        is(35, x.go(0));
    }

    private static void goOnWrong() {
        sentence("goOn: IllegalArgumentException likewise.");
        MoodPlayer x = five();
        for (int slot = 0; slot <= 3; slot++) {
            x.keep(slot);
        }
        x.play(0);
        x.go(30);
        for (int no : new int[] {-1, 4, 5, LEAST, HIGHEST}) {
            badArgument(() -> x.goOn(no));
        }
        is("0 1 1 6", plays(x));
        is(30, x.go(0));
    }
}
