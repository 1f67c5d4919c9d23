/** The sentences of 'What it is' and 'Terms' that name a boundary case, each with a test of its own. */
public final class TermsTest extends Check {
    public static void main(String[] args) {
        check(TermsTest::calls);
        check(TermsTest::pieces);
        check(TermsTest::kinds);
        check(TermsTest::beats);
        check(TermsTest::beat);
        check(TermsTest::moods);
        check(TermsTest::most);
        check(TermsTest::joints);
        check(TermsTest::fullOfPiecesAndJoints);
        check(TermsTest::jointsLieBetweenLoopsAndBridges);
        check(TermsTest::jointsBeat);
        check(TermsTest::jointsCost);
        check(TermsTest::noTwoJoints);
        check(TermsTest::pricesAtFirst);
        check(TermsTest::pricesRange);
        check(TermsTest::timeAtFirst);
        check(TermsTest::silenceAtFirst);
        check(TermsTest::turns);
        check(TermsTest::openUntilMet);
        check(TermsTest::behindABeatThatIsNotDone);
        check(TermsTest::again);
        check(TermsTest::lastPieceHasTheMood);
        check(TermsTest::costOfAWay);
        check(TermsTest::leastCost);
        check(TermsTest::fewerSteps);
        check(TermsTest::firstRow);
        check(TermsTest::mayBeNone);
        check(TermsTest::noSteps);
        check(TermsTest::foundWhenAsked);
        check(TermsTest::foundAnewOnBeginning);
        check(TermsTest::foundAnewOnChange);
        check(TermsTest::asLongAsOneIsOpen);
        check(TermsTest::jointOfTheWay);
        check(TermsTest::againOfTheWay);
        check(TermsTest::lessTurnsThanMost);
        check(TermsTest::noJointThere);
        check(TermsTest::othersTakeTheJoint);
        check(TermsTest::leastCostBehindLastBeat);
        check(TermsTest::silenceWithoutJoint);
        check(TermsTest::beginning);
        check(TermsTest::met);
        check(TermsTest::layersInOrder);
        check(TermsTest::layersMultiple);
        check(TermsTest::belowTop);
        check(TermsTest::belowSixteen);
        check(TermsTest::off);
        check(TermsTest::silenceOfLayers);
        check(TermsTest::rowOfStings);
        check(TermsTest::noneSounds);
        check(TermsTest::beatsLeft);
        check(TermsTest::ownLength);
        check(TermsTest::endsAhead);
        check(TermsTest::silenceOfStings);
        check(TermsTest::logged);
        check(TermsTest::latestEvents);
        check(TermsTest::allIsKept);
        check(TermsTest::logIsNotKept);
        check(TermsTest::fourSlots);
        check(TermsTest::scoreStays);
        check(TermsTest::wayAnewFromASlot);
        check(TermsTest::timeAsKept);
        end("the terms' sentences hold");
    }

    /** 0 a loop of 4 beats, 1 a loop of 2 with mood 0, 2 a bridge of 3; no joints. */
    private static MoodPlayer three() {
        MoodPlayer x = new MoodPlayer();
        x.piece(LOOP, 4, 24, 0, 9);
        x.piece(LOOP, 2, 24, 1, 9);
        x.piece(BRIDGE, 3, 24, 0, 1);
        return x;
    }

    // ---- what it is ----

    private static void calls() {
        sentence("An object is used for at most 512 calls after it has been made");
        MoodPlayer x = new MoodPlayer();
        x.piece(LOOP, 1, 24, 0, 1);
        x.play(0);
        for (int call = 3; call <= 511; call++) {
            x.go(20000);
        }
        is(510L * 20000, x.go(20000));
        MoodPlayer y = new MoodPlayer();
        y.piece(LOOP, 1, 24, 0, 1);
        y.play(0);
        for (int call = 3; call <= 511; call++) {
            y.go(24);
        }
        is(510, y.now(2));
    }

    // ---- 1. pieces, joints, prices ----

    private static void pieces() {
        sentence("PIECES, numbered from 0 on, at most 20");
        MoodPlayer x = new MoodPlayer();
        is(0, x.now(9));
        for (int i = 0; i < 20; i++) {
            is(i, x.piece(i % 4, 1, 24, 0, 1));
            is(i + 1, x.now(9));
        }
        for (int kind = LOOP; kind <= STING; kind++) {
            is(NONE, x.piece(kind, 1, 24, 0, 1));
        }
        is(20, x.now(9));
        is(true, x.play(16));
        is(true, x.play(17));
        is(0, x.layer(18, 1));
        is(1, x.sting(19));
        noElement(() -> x.play(20));
    }

    private static void kinds() {
        sentence("each of a KIND: 0 LOOP, 1 BRIDGE, 2 LAYER, 3 STING");
        MoodPlayer x = new MoodPlayer();
        for (int kind : new int[] {-1, 4, LEAST, HIGHEST}) {
            is(NONE, x.piece(kind, 1, 24, 0, 1));
        }
        for (int kind = 0; kind <= 3; kind++) {
            is(kind, x.piece(kind, 1, 24, 0, 1));
        }
        is("true true false false", x.play(1) + " " + x.play(0) + " " + x.play(2) + " " + x.play(3));
        x.go(24);
        is(0, x.now(0));
        x.play(1);
        x.go(24);
        is(NONE, x.now(0));
        is("-1 -1 0 -1", x.layer(0, 1) + " " + x.layer(1, 1) + " " + x.layer(2, 1) + " " + x.layer(3, 1));
        is("-1 -1 -1 1", x.sting(0) + " " + x.sting(1) + " " + x.sting(2) + " " + x.sting(3));
    }

    private static void beats() {
        sentence("BEATS (1 to 64)");
        MoodPlayer x = new MoodPlayer();
        for (int kind = LOOP; kind <= STING; kind++) {
            for (int beats : new int[] {0, 65, -1, LEAST, HIGHEST}) {
                is(NONE, x.piece(kind, beats, 24, 0, 1));
            }
            is(2 * kind, x.piece(kind, 1, 24, 0, 1));
            is(2 * kind + 1, x.piece(kind, 64, 24, 0, 1));
        }
        x.play(2);
        x.go(23);
        is("2 0 1 23", plays(x));
        x.go(1);
        is("-1 0 0 0", plays(x));
        x.play(3);
        x.go(64 * 24 - 1);
        is("3 63 1 23", plays(x));
        x.go(1);
        is("-1 0 0 0", plays(x));
        x.layer(4, 8);
        x.layer(5, 8);
        x.play(1);
        x.go(63 * 24);
        is("8 0", levels(x, 4, 5));
        x.go(24);
        is("8 1", levels(x, 4, 5));
        x.sting(7);
        x.go(63 * 24);
        is("-1 1", stings(x));
        x.go(24);
        is("7 0", stings(x));
    }

    private static void beat() {
        sentence("a BEAT is 24 to 2400 long");
        MoodPlayer x = new MoodPlayer();
        for (int kind = LOOP; kind <= STING; kind++) {
            for (int beat : new int[] {23, 2401, 0, -1, LEAST, HIGHEST}) {
                is(NONE, x.piece(kind, 1, beat, 0, 1));
            }
            is(2 * kind, x.piece(kind, 1, 24, 0, 1));
            is(2 * kind + 1, x.piece(kind, 1, 2400, 0, 1));
        }
        x.play(1);
        x.go(2399);
        is("1 0 1 2399", plays(x));
        x.go(1);
        is("1 0 2 0", plays(x));
        x.sting(7);
        x.sting(6);
        x.play(0);
        x.go(24);
        is("7 1", stings(x));
        x.go(2399);
        is("7 1", stings(x));
        x.go(1);
        is("6 0", stings(x));
        x.go(24);
        is("-1 0", stings(x));
    }

    private static void moods() {
        sentence("MOODS (bits 0 to 7; none of LAYERS, STINGS)");
        MoodPlayer x = new MoodPlayer();
        for (int kind = LOOP; kind <= STING; kind++) {
            for (int moods : new int[] {-1, 256, 511, LEAST, HIGHEST}) {
                is(NONE, x.piece(kind, 1, 24, moods, 1));
            }
        }
        for (int moods : new int[] {1, 2, 128, 255}) {
            is(NONE, x.piece(LAYER, 1, 24, moods, 1));
            is(NONE, x.piece(STING, 1, 24, moods, 1));
        }
        for (int bit = 0; bit <= 7; bit++) {
            is(bit, x.piece(bit % 2, 1, 24, 1 << bit, 1));
        }
        is(8, x.piece(LOOP, 1, 24, 255, 1));
        is(9, x.piece(BRIDGE, 1, 24, 255, 1));
        is(10, x.piece(LOOP, 1, 24, 0, 1));
        is(11, x.piece(BRIDGE, 1, 24, 0, 1));
        is(12, x.piece(LAYER, 1, 24, 0, 1));
        is(13, x.piece(STING, 1, 24, 0, 1));
        for (int piece = 0; piece < 12; piece++) {
            for (int mood = 0; mood <= 7; mood++) {
                boolean has = piece < 8 ? piece == mood : piece < 10;
                is(has ? 0 : NONE, x.reach(piece, mood));
            }
        }
    }

    private static void most() {
        sentence("MOST (1 to 9)");
        MoodPlayer x = new MoodPlayer();
        for (int kind = LOOP; kind <= STING; kind++) {
            for (int most : new int[] {0, 10, -1, LEAST, HIGHEST}) {
                is(NONE, x.piece(kind, 1, 24, 0, most));
            }
            is(2 * kind, x.piece(kind, 1, 24, 0, 1));
            is(2 * kind + 1, x.piece(kind, 1, 24, 0, 9));
        }
        x.joint(0, 1, 2, 0);
        x.joint(1, 1, 2, 0);
        x.play(0);
        x.go(24);
        is("2 0 1 0", plays(x));
        x.play(1);
        x.go(8 * 24);
        is("1 0 9 0", plays(x));
        x.go(24);
        is("2 0 1 0", plays(x));
    }

    private static void joints() {
        sentence("JOINTS, numbered from 0 on, at most 100");
        MoodPlayer x = new MoodPlayer();
        x.piece(LOOP, 64, 24, 1, 1);
        x.piece(LOOP, 64, 24, 0, 1);
        is(0, x.now(10));
        for (int i = 0; i < 100; i++) {
            is(i, i < 64 ? x.joint(0, i + 1, 1, 0) : x.joint(1, i - 63, 0, 0));
        }
        is(100, x.now(10));
        is(NONE, x.joint(1, 37, 0, 0));
        is(NONE, x.joint(1, 64, 1, 99));
        is(100, x.now(10));
        x.play(1);
        x.go(35 * 24);
        is(1, x.ask(0));
        is("99", way(x));
        x.go(24);
        is("0 0 1 0", plays(x));
    }

    private static void fullOfPiecesAndJoints() {
        sentence("at most 100");
        MoodPlayer x = new MoodPlayer();
        x.piece(BRIDGE, 64, 24, 0, 1);
        x.piece(BRIDGE, 64, 24, 0, 1);
        for (int i = 2; i < 20; i++) {
            x.piece(LOOP, 1, 24, i == 19 ? 128 : 0, 1);
        }
        for (int i = 0; i < 100; i++) {
            is(i, x.joint(i % 2, i / 2 + 1, 1 - i % 2, 0));
        }
        is("20 100", nows(x, 9, 10));
        is("-1 -1", x.lacks(0, 6) + " " + x.lacks(19, 7));
        is("19 19 219", x.lacks(0, 7) + " " + x.lacks(1, 7) + " " + x.lacks(2, 7));
        is("-1 0", x.reach(0, 7) + " " + x.reach(19, 7));
        x.play(0);
        is(NONE, x.ask(7));
        x.go(64 * 24);
        is("-1 0 0 0", plays(x));
        is(NONE, x.joint(0, 64, 19, 0));
        x.play(19);
        x.go(24);
        is("19 0 2 0", plays(x));
        is("1536:0:19 1536:4:7 1560:3:19", log(x, 2));
    }

    private static void jointsLieBetweenLoopsAndBridges() {
        sentence("from a LOOP or BRIDGE behind its k-th BEAT (1 to BEATS) to a LOOP or BRIDGE");
        MoodPlayer x = new MoodPlayer();
        for (int kind = LOOP; kind <= STING; kind++) {
            x.piece(kind, 1, 24, 0, 1);
        }
        int number = 0;
        for (int from = 0; from <= 3; from++) {
            for (int to = 0; to <= 3; to++) {
                boolean may = from <= 1 && to <= 1;
                is(may ? number : NONE, x.joint(from, 1, to, 0));
                number += may ? 1 : 0;
            }
        }
        is(4, x.now(10));
    }

    private static void jointsBeat() {
        sentence("behind its k-th BEAT (1 to BEATS)");
        MoodPlayer x = three();
        for (int behind : new int[] {0, 5, -1, 64, LEAST, HIGHEST}) {
            is(NONE, x.joint(0, behind, 1, 0));
        }
        is(0, x.joint(0, 1, 1, 0));
        is(1, x.joint(0, 4, 1, 0));
        is(NONE, x.joint(2, 4, 0, 0));
        is(2, x.joint(2, 3, 0, 0));
        is(NONE, x.joint(1, 3, 0, 0));
        is(3, x.joint(1, 2, 0, 0));
        MoodPlayer y = new MoodPlayer();
        y.piece(LOOP, 64, 24, 0, 1);
        is(NONE, y.joint(0, 65, 0, 0));
        is(0, y.joint(0, 64, 0, 0));
    }

    private static void jointsCost() {
        sentence("with a COST 0 to 99");
        MoodPlayer x = three();
        for (int cost : new int[] {-1, 100, LEAST, HIGHEST}) {
            is(NONE, x.joint(0, 1, 1, cost));
        }
        is(0, x.joint(0, 1, 1, 99));
        x.price(1, 0);
        x.play(0);
        x.ask(0);
        is(24 * 99, x.cost());
        is(1, x.joint(0, 2, 1, 0));
        is(0, x.cost());
    }

    private static void noTwoJoints() {
        sentence("no two from one PIECE and BEAT to one PIECE");
        MoodPlayer x = three();
        is(0, x.joint(0, 1, 1, 5));
        is(NONE, x.joint(0, 1, 1, 5));
        is(NONE, x.joint(0, 1, 1, 6));
        is(NONE, x.joint(0, 1, 1, 0));
        is(1, x.joint(0, 2, 1, 5));
        is(2, x.joint(0, 1, 2, 5));
        is(3, x.joint(2, 1, 1, 5));
        is(4, x.joint(0, 1, 0, 5));
        is(NONE, x.joint(2, 1, 1, 4));
        is(NONE, x.joint(0, 1, 0, 4));
        is(NONE, x.joint(0, 1, 1, 4));
        is(5, x.now(10));
    }

    private static void pricesAtFirst() {
        sentence("PRICES: AGAIN (0; at first 10), LATE (1; 1)");
        MoodPlayer x = three();
        x.joint(0, 1, 1, 0);
        x.play(0);
        x.go(24);
        x.ask(0);
        is(24 * 10 + 72 + 24, x.cost());
        is(10, x.price(0, 10));
        is(1, x.price(1, 1));
    }

    private static void pricesRange() {
        sentence("PRICES: ..; 0 to 99.");
        MoodPlayer x = three();
        x.joint(0, 1, 1, 0);
        x.play(0);
        x.go(24);
        x.ask(0);
        for (int what = 0; what <= 1; what++) {
            int price = what;
            for (int v : new int[] {-1, 100, LEAST, HIGHEST}) {
                badArgument(() -> x.price(price, v));
            }
        }
        is(24 * 10 + 96, x.cost());
        is(10, x.price(0, 99));
        is(24 * 99 + 96, x.cost());
        is(1, x.price(1, 99));
        is(24 * 99 + 99 * 96, x.cost());
        is(99, x.price(0, 0));
        is(99 * 96, x.cost());
        is(99, x.price(1, 0));
        is(0, x.cost());
    }

    // ---- 2. time and the way ----

    private static void timeAtFirst() {
        sentence("TIME is a number of 24ths, 0 at first.");
        MoodPlayer x = new MoodPlayer();
        is(0, x.go(0));
        is(1, x.go(1));
        is(25, x.go(24));
        x.piece(LOOP, 1, 24, 0, 1);
        x.play(0);
        is("25:0:0", event(x, 0));
    }

    private static void silenceAtFirst() {
        sentence("One LOOP or BRIDGE PLAYS, or there is SILENCE (at first)");
        MoodPlayer x = three();
        is("-1 0 0 0", plays(x));
        x.go(20000);
        is("-1 0 0 0", plays(x));
        is(0, x.now(8));
        x.play(0);
        x.play(2);
        is("2 0 1 0", plays(x));
    }

    private static void turns() {
        sentence("TURNS: how often it began behind itself, and 1");
        MoodPlayer x = new MoodPlayer();
        x.piece(LOOP, 1, 24, 0, 2);
        x.piece(LOOP, 1, 24, 0, 1);
        x.piece(BRIDGE, 1, 24, 1, 1);
        x.joint(0, 1, 1, 0);
        x.joint(1, 1, 1, 3);
        x.play(0);
        is(1, x.now(2));
        x.go(24);
        is("0 0 2 0", plays(x));
        x.go(24);
        is("1 0 1 0", plays(x));
        x.go(24);
        is("1 0 2 0", plays(x));
        x.go(24);
        is("1 0 3 0", plays(x));
        x.joint(1, 1, 0, 2);
        x.go(24);
        is("0 0 1 0", plays(x));
        x.go(24);
        x.play(0);
        is("0 0 1 0", plays(x));
        x.joint(2, 1, 2, 0);
        x.play(2);
        x.go(48);
        is("2 0 3 0", plays(x));
        MoodPlayer y = three();
        y.joint(0, 1, 1, 0);
        y.play(0);
        y.go(24);
        y.ask(0);
        y.go(72);
        is("0 0 2 0", plays(y));
        y.go(24);
        is("1 0 1 0", plays(y));
    }

    private static void openUntilMet() {
        sentence("A MOOD that is ASKED for is open until a PIECE that has it PLAYS.");
        MoodPlayer x = three();
        x.ask(0);
        x.go(100);
        is(0, x.now(4));
        x.play(2);
        x.go(72);
        is("-1 0", nows(x, 0, 4));
        x.play(0);
        x.go(500);
        is("0 0", nows(x, 0, 4));
        x.play(1);
        is("1 -1", nows(x, 0, 4));
        x.play(0);
        x.joint(0, 4, 1, 0);
        x.ask(0);
        x.go(95);
        is("0 0", nows(x, 0, 4));
        x.go(1);
        is("1 -1", nows(x, 0, 4));
        x.play(0);
        is("0 -1", nows(x, 0, 4));
    }

    private static void behindABeatThatIsNotDone() {
        sentence("each a JOINT of what PLAYS then, behind a BEAT that isn't DONE yet");
        MoodPlayer x = three();
        x.joint(2, 2, 1, 0);
        x.play(2);
        x.go(47);
        is(1, x.ask(0));
        is("0 1", way(x) + " " + x.cost());
        x.leave();
        x.go(1);
        is(NONE, x.ask(0));
        MoodPlayer y = three();
        y.joint(2, 2, 1, 0);
        y.joint(2, 3, 1, 0);
        y.joint(0, 1, 2, 0);
        y.play(2);
        y.go(48);
        y.ask(0);
        is("1", way(y));
        y.play(0);
        is("2 0", way(y));
    }

    private static void again() {
        sentence("or AGAIN (told as 100): a LOOP goes on from its end to its beginning");
        MoodPlayer x = three();
        x.joint(0, 2, 1, 0);
        x.joint(2, 2, 1, 0);
        x.play(0);
        x.go(48);
        is(2, x.ask(0));
        is("100 0", way(x));
        x.play(2);
        x.leave();
        x.go(48);
        is(NONE, x.ask(0));
        x.play(0);
        x.leave();
        x.go(95);
        x.ask(0);
        is("100 0", way(x));
        is(240 + 1 + 48, x.cost());
        x.go(1);
        is("0", way(x));
        is(48, x.cost());
    }

    private static void lastPieceHasTheMood() {
        sentence("the last one's PIECE has the MOOD");
        MoodPlayer x = new MoodPlayer();
        x.piece(LOOP, 1, 24, 0, 1);
        x.piece(LOOP, 1, 24, 1, 1);
        x.piece(LOOP, 1, 24, 2, 1);
        x.piece(LOOP, 1, 24, 3, 1);
        x.joint(0, 1, 1, 0);
        x.joint(1, 1, 2, 0);
        x.joint(2, 1, 3, 0);
        x.play(0);
        x.ask(0);
        is("0", way(x));
        x.ask(1);
        is("0 1", way(x));
        is(NONE, x.ask(2));
    }

    private static void costOfAWay() {
        sentence("COST of a WAY: 24 times the COST of each JOINT, 24 times AGAIN for each AGAIN, LATE times the time "
            + "until the last step.");
        MoodPlayer x = new MoodPlayer();
        x.piece(LOOP, 3, 50, 0, 1);
        x.piece(BRIDGE, 2, 31, 0, 1);
        x.piece(LOOP, 9, 24, 1, 1);
        x.joint(0, 1, 1, 7);
        x.joint(1, 2, 2, 11);
        x.price(0, 5);
        x.price(1, 3);
        x.play(0);
        x.ask(0);
        is(24 * 18 + 3 * (50 + 62), x.cost());
        x.go(49);
        is(24 * 18 + 3 * (1 + 62), x.cost());
        x.leave();
        x.go(1);
        x.ask(0);
        is("100 0 1", way(x));
        is(24 * (5 + 18) + 3 * (100 + 50 + 62), x.cost());
        x.go(60);
        is(24 * (5 + 18) + 3 * (40 + 50 + 62), x.cost());
        x.go(90);
        is("1 0 1 0", plays(x));
        is(24 * 11 + 3 * 62, x.cost());
        x.go(61);
        is(24 * 11 + 3, x.cost());
    }

    private static void leastCost() {
        sentence("THE WAY is that of least COST");
        MoodPlayer x = new MoodPlayer();
        x.piece(LOOP, 4, 25, 0, 1);
        x.piece(LOOP, 1, 24, 1, 1);
        x.joint(0, 2, 1, 0);
        x.joint(0, 1, 1, 1);
        x.play(0);
        x.ask(0);
        is("1", way(x));
        is(49, x.cost());
        x.price(1, 0);
        is("0", way(x));
        x.price(1, 1);
        x.joint(0, 3, 1, 0);
        is("1", way(x));
        MoodPlayer y = new MoodPlayer();
        y.piece(LOOP, 1, 25, 0, 1);
        y.piece(BRIDGE, 1, 24, 0, 1);
        y.piece(LOOP, 1, 24, 1, 1);
        y.joint(0, 1, 2, 2);
        y.joint(0, 1, 1, 0);
        y.joint(1, 1, 2, 0);
        y.play(0);
        y.ask(0);
        is("1 2", way(y));
        is(49, y.cost());
    }

    private static void fewerSteps() {
        sentence("of like ones that of fewer steps");
        MoodPlayer x = new MoodPlayer();
        x.piece(LOOP, 1, 24, 0, 1);
        x.piece(BRIDGE, 1, 24, 0, 1);
        x.piece(LOOP, 1, 24, 1, 1);
        x.joint(0, 1, 1, 0);
        x.joint(1, 1, 2, 0);
        x.joint(0, 1, 2, 1);
        x.play(0);
        x.ask(0);
        is("2", way(x));
        is(48, x.cost());
        x.price(0, 0);
        x.price(1, 0);
        is("0 1", way(x));
        MoodPlayer y = new MoodPlayer();
        y.piece(LOOP, 2, 24, 0, 1);
        y.piece(LOOP, 1, 24, 1, 1);
        y.joint(0, 1, 1, 0);
        y.joint(0, 2, 1, 0);
        y.price(0, 0);
        y.price(1, 0);
        y.play(0);
        y.go(24);
        is(1, y.ask(0));
        is("1", way(y));
        MoodPlayer z = new MoodPlayer();
        z.piece(LOOP, 1, 24, 0, 1);
        z.piece(LOOP, 2, 24, 0, 1);
        z.piece(BRIDGE, 1, 24, 0, 1);
        z.piece(LOOP, 1, 24, 1, 1);
        z.joint(2, 1, 3, 0);
        z.joint(1, 1, 2, 0);
        z.joint(1, 2, 3, 0);
        z.joint(0, 1, 1, 0);
        z.play(0);
        is(2, z.ask(0));
        is("3 2", way(z));
    }

    private static void firstRow() {
        sentence("then the first as a row of numbers");
        MoodPlayer x = new MoodPlayer();
        x.piece(LOOP, 2, 24, 0, 1);
        x.piece(BRIDGE, 1, 24, 0, 1);
        x.piece(LOOP, 1, 24, 1, 1);
        x.joint(0, 1, 2, 0);
        x.joint(0, 2, 1, 10);
        x.joint(1, 1, 2, 0);
        x.play(0);
        x.go(24);
        x.ask(0);
        is("1 2", way(x));
        is(288, x.cost());
        x.price(0, 9);
        is("100 0", way(x));
        MoodPlayer y = new MoodPlayer();
        y.piece(LOOP, 12, 24, 0, 1);
        y.piece(LOOP, 1, 24, 1, 1);
        y.price(1, 0);
        for (int beat = 12; beat >= 1; beat--) {
            y.joint(0, beat, 1, beat == 3 || beat == 2 ? 0 : 1);
        }
        y.play(0);
        y.ask(0);
        is("9", way(y));
        MoodPlayer z = new MoodPlayer();
        z.piece(LOOP, 1, 24, 0, 1);
        z.piece(BRIDGE, 2, 24, 0, 1);
        z.piece(BRIDGE, 2, 24, 0, 1);
        z.piece(LOOP, 1, 24, 1, 1);
        z.joint(2, 2, 3, 0);
        z.joint(2, 1, 3, 1);
        z.joint(1, 2, 3, 0);
        z.joint(0, 1, 1, 0);
        z.joint(0, 1, 2, 0);
        z.play(0);
        z.ask(0);
        is("3 2", way(z));
        z.play(2);
        is("0", way(z));
        MoodPlayer w = new MoodPlayer();
        w.piece(LOOP, 1, 24, 0, 1);
        w.piece(LOOP, 1, 24, 1, 1);
        w.piece(LOOP, 1, 24, 1, 1);
        w.piece(LOOP, 1, 24, 2, 1);
        w.joint(0, 1, 1, 0);
        w.joint(0, 1, 2, 0);
        w.joint(1, 1, 3, 0);
        w.play(0);
        w.ask(1);
        is("0 2", way(w));
        w.ask(0);
        is("0", way(w));
    }

    private static void mayBeNone() {
        sentence("There may be none");
        MoodPlayer x = three();
        x.play(0);
        is(NONE, x.ask(0));
        is(NONE, x.ask(7));
        is("none", way(x));
        is(NONE, x.cost());
        x.joint(0, 4, 2, 0);
        is("none", way(x));
        x.joint(1, 2, 0, 0);
        is("none", way(x));
    }

    private static void noSteps() {
        sentence("if what PLAYS has the MOOD it has no steps");
        MoodPlayer x = three();
        x.joint(1, 1, 1, 0);
        x.play(1);
        is(0, x.ask(0));
        is("none", way(x));
        is("-1 -1", x.cost() + " " + x.now(4));
    }

    private static void foundWhenAsked() {
        sentence("THE WAY is found when a MOOD is ASKED for (in SILENCE there is none)");
        MoodPlayer x = three();
        x.joint(0, 1, 1, 0);
        x.joint(2, 3, 1, 0);
        is(NONE, x.ask(0));
        is("none -1", way(x) + " " + x.cost());
        x.price(0, 0);
        x.joint(0, 2, 1, 0);
        x.piece(LOOP, 1, 24, 1, 1);
        is("none -1", way(x) + " " + x.cost());
        x.play(0);
        is("0", way(x));
        x.leave();
        is("none", way(x));
        is(1, x.ask(0));
        is("0", way(x));
    }

    private static void foundAnewOnBeginning() {
        sentence("anew, as long as one is open, when a PIECE has begun other than by THE WAY");
        MoodPlayer x = three();
        x.piece(LOOP, 1, 24, 0, 1);
        x.joint(0, 1, 1, 0);
        x.joint(3, 1, 0, 0);
        x.play(0);
        x.ask(0);
        x.play(3);
        is("1 0", way(x));
        x.play(2);
        is("none", way(x));
        x.play(0);
        is("0", way(x));
        MoodPlayer y = three();
        y.play(2);
        y.ask(0);
        y.joint(2, 3, 0, 0);
        y.go(24);
        y.joint(0, 4, 2, 0);
        y.joint(2, 1, 1, 0);
        is("0 1 2", way(y));
        y.play(2);
        is("2", way(y));
        MoodPlayer z = three();
        z.play(0);
        z.ask(0);
        z.go(96);
        is("none", way(z));
        is("0 0 2 0", plays(z));
        z.go(48);
        z.joint(0, 2, 1, 0);
        is("100 0", way(z));
        z.play(0);
        is("0", way(z));
    }

    private static void foundAnewOnChange() {
        sentence("and when PIECES, JOINTS, PRICES change");
        MoodPlayer x = three();
        x.play(0);
        x.ask(0);
        is("none", way(x));
        x.joint(0, 4, 1, 0);
        is("0 96", way(x) + " " + x.cost());
        x.joint(0, 2, 1, 1);
        is("1 72", way(x) + " " + x.cost());
        x.price(1, 0);
        is("0 0", way(x) + " " + x.cost());
        x.price(1, 2);
        is("1 120", way(x) + " " + x.cost());
        x.go(48);
        is(1, x.now(0));
        MoodPlayer y = three();
        y.joint(0, 1, 1, 0);
        y.joint(0, 4, 1, 9);
        y.play(0);
        y.go(24);
        y.ask(0);
        is("1", way(y));
        y.price(0, 0);
        is("100 0", way(y));
        y.piece(LOOP, 1, 24, 1, 1);
        is("100 0", way(y));
        y.joint(0, 2, 3, 0);
        is("2", way(y));
        MoodPlayer z = three();
        z.joint(0, 1, 1, 0);
        z.play(0);
        z.ask(0);
        int without = z.piece(LOOP, 1, 24, 2, 1);
        is("0", way(z));
        z.play(without);
        is("none", way(z));
        z.joint(without, 1, 0, 0);
        is("1 0", way(z));
    }

    private static void asLongAsOneIsOpen() {
        sentence("as long as one is open");
        MoodPlayer x = three();
        x.play(0);
        x.ask(0);
        x.leave();
        x.joint(0, 2, 1, 0);
        x.price(1, 0);
        x.piece(LOOP, 1, 24, 1, 1);
        x.play(0);
        is("none", way(x));
        x.go(95);
        is("0 3 1 23", plays(x));
        MoodPlayer y = three();
        y.joint(0, 4, 1, 0);
        y.joint(1, 1, 0, 0);
        y.play(0);
        y.ask(0);
        y.go(96);
        is("1 0 1 0", plays(y));
        y.price(1, 0);
        is("none", way(y));
        y.go(24);
        is("1 1 1 0", plays(y));
    }

    // ---- 3. beat by beat, and the log ----

    private static void jointOfTheWay() {
        sentence("(a) if THE WAY's next step is a JOINT behind just that BEAT, it is TAKEN");
        MoodPlayer x = three();
        x.joint(0, 2, 1, 99);
        x.joint(0, 1, 2, 0);
        x.joint(0, 4, 2, 0);
        x.play(0);
        x.ask(0);
        is("0", way(x));
        x.go(47);
        is("0 1 1 23", plays(x));
        x.go(1);
        is("1 0 1 0", plays(x));
        is("0:0:0 48:1:0 48:4:0", log(x, 0));
        MoodPlayer y = three();
        y.joint(0, 4, 2, 0);
        y.joint(0, 4, 1, 99);
        y.play(0);
        y.ask(0);
        y.go(96);
        is("0:0:0 96:1:1 96:4:0", log(y, 0));
    }

    private static void againOfTheWay() {
        sentence("if that was the last BEAT and the next step is AGAIN, that is TAKEN");
        MoodPlayer x = new MoodPlayer();
        x.piece(LOOP, 3, 24, 0, 1);
        x.piece(LOOP, 1, 24, 1, 1);
        x.piece(BRIDGE, 1, 24, 0, 1);
        x.joint(0, 1, 1, 0);
        x.joint(0, 3, 2, 0);
        x.play(0);
        x.go(24);
        x.ask(0);
        is("100 0", way(x));
        x.go(24);
        is("0 2 1 0", plays(x));
        x.go(23);
        is("100 0", way(x));
        x.go(1);
        is("0 0 2 0", plays(x));
        is("0", way(x));
        x.go(24);
        is("0:0:0 72:3:0 96:1:0 96:4:0", log(x, 0));
    }

    private static void lessTurnsThanMost() {
        sentence("behind the last BEAT: a LOOP with less TURNS than MOST .. goes AGAIN");
        MoodPlayer x = new MoodPlayer();
        x.piece(LOOP, 2, 24, 0, 3);
        x.piece(LOOP, 1, 24, 0, 1);
        x.joint(0, 2, 1, 0);
        x.play(0);
        x.go(96);
        is("0 0 3 0", plays(x));
        x.go(47);
        is("0 1 3 23", plays(x));
        x.go(1);
        is("1 0 1 0", plays(x));
        is("0:0:0 48:3:0 96:3:0 144:2:0", log(x, 0));
    }

    private static void noJointThere() {
        sentence("or with no JOINT there, goes AGAIN");
        MoodPlayer x = new MoodPlayer();
        x.piece(LOOP, 2, 24, 0, 1);
        x.piece(LOOP, 1, 24, 0, 1);
        x.joint(0, 1, 1, 0);
        x.joint(1, 1, 0, 0);
        x.play(0);
        x.go(480);
        is("0 0 11 0", plays(x));
        x.joint(0, 2, 1, 99);
        x.go(48);
        is("1 0 1 0", plays(x));
    }

    private static void othersTakeTheJoint() {
        sentence("all others take the JOINT there");
        MoodPlayer x = new MoodPlayer();
        x.piece(BRIDGE, 2, 24, 0, 9);
        x.piece(LOOP, 1, 24, 0, 1);
        x.joint(0, 1, 1, 0);
        x.joint(0, 2, 1, 99);
        x.play(0);
        x.go(24);
        is("0 1 1 0", plays(x));
        x.go(24);
        is("1 0 1 0", plays(x));
        is("48:2:1", lastEvent(x));
        MoodPlayer y = new MoodPlayer();
        y.piece(LOOP, 1, 24, 0, 1);
        y.piece(BRIDGE, 1, 24, 0, 1);
        y.joint(0, 1, 1, 50);
        y.play(0);
        y.go(24);
        is("1 0 1 0", plays(y));
    }

    private static void leastCostBehindLastBeat() {
        sentence("the JOINT there of least COST (of like ones the least)");
        MoodPlayer x = new MoodPlayer();
        for (int i = 0; i < 5; i++) {
            x.piece(BRIDGE, 2, 24, 0, 1);
        }
        x.joint(0, 1, 1, 0);
        x.joint(1, 2, 1, 0);
        x.joint(0, 2, 2, 8);
        x.joint(0, 2, 4, 7);
        x.joint(0, 2, 3, 7);
        x.play(0);
        x.go(48);
        is(4, x.now(0));
        is("48:2:3", lastEvent(x));
        x.joint(0, 2, 1, 6);
        x.play(0);
        x.go(48);
        is(1, x.now(0));
    }

    private static void silenceWithoutJoint() {
        sentence("without one there is SILENCE");
        MoodPlayer x = new MoodPlayer();
        x.piece(BRIDGE, 2, 24, 0, 9);
        x.piece(BRIDGE, 2, 24, 0, 9);
        x.joint(0, 1, 1, 0);
        x.joint(1, 2, 0, 0);
        x.play(0);
        x.go(47);
        is("0 1 1 23", plays(x));
        x.go(1);
        is("-1 0 0 0", plays(x));
        is("48:7:0", lastEvent(x));
        x.go(1000);
        is("-1 0 0 0", plays(x));
        is(2, x.now(8));
    }

    private static void beginning() {
        sentence("A PIECE that begins has no BEATS DONE; TURNS are 1, or 1 more, if it is that which PLAYED.");
        MoodPlayer x = new MoodPlayer();
        x.piece(LOOP, 3, 24, 0, 9);
        x.piece(BRIDGE, 3, 30, 1, 9);
        x.joint(0, 2, 1, 0);
        x.joint(1, 3, 1, 1);
        x.play(0);
        x.go(72);
        is("0 0 2 0", plays(x));
        x.ask(0);
        x.go(48);
        is("1 0 1 0", plays(x));
        x.go(90);
        is("1 0 2 0", plays(x));
        x.joint(1, 3, 0, 0);
        x.go(90);
        is("0 0 1 0", plays(x));
        MoodPlayer y = three();
        y.joint(0, 2, 0, 0);
        y.joint(0, 1, 1, 0);
        y.play(0);
        y.go(24);
        y.ask(0);
        is("0 1", way(y));
        y.go(24);
        is("0 0 2 0", plays(y));
        is("48:1:0", lastEvent(y));
    }

    private static void met() {
        sentence("An open MOOD that it has is MET (no more open, no WAY).");
        MoodPlayer x = three();
        x.joint(0, 1, 1, 0);
        x.joint(1, 1, 0, 0);
        x.play(0);
        x.ask(0);
        x.go(24);
        is("1 -1", nows(x, 0, 4));
        is("none -1", way(x) + " " + x.cost());
        is("24:4:0", lastEvent(x));
        x.ask(5);
        x.play(1);
        is(5, x.now(4));
        x.ask(0);
        is(NONE, x.now(4));
        x.play(0);
        x.ask(0);
        x.play(1);
        is("-1 none", x.now(4) + " " + way(x));
    }

    /** A bridge of 8 beats, and layers of one beat each, all with TOP 8. */
    private static MoodPlayer layered(int layers) {
        MoodPlayer x = new MoodPlayer();
        x.piece(BRIDGE, 8, 24, 0, 1);
        for (int i = 1; i <= layers; i++) {
            x.piece(LAYER, 1, 24, 0, 1);
            x.layer(i, 8);
        }
        return x;
    }

    private static void layersInOrder() {
        sentence("(b) LAYERS, 0 first");
        MoodPlayer x = layered(3);
        x.play(0);
        x.go(24 * 6);
        is("6 5 5", levels(x, 1, 2, 3));
        x.layer(3, 0);
        x.go(24);
        is("6 5 4", levels(x, 1, 2, 3));
        MoodPlayer y = layered(3);
        y.play(0);
        y.go(24 * 6);
        y.layer(1, 0);
        y.go(24);
        is("5 6 5", levels(y, 1, 2, 3));
        MoodPlayer z = new MoodPlayer();
        for (int i = 0; i < 19; i++) {
            z.piece(LAYER, 1, 24, 0, 1);
        }
        z.piece(LOOP, 1, 24, 0, 1);
        z.layer(0, 8);
        z.layer(18, 8);
        z.play(19);
        z.go(24 * 7);
        is("7 7", levels(z, 0, 18));
        z.layer(9, 8);
        z.go(24);
        is("8 1 7", levels(z, 0, 9, 18));
        is(16, z.now(7));
    }

    private static void layersMultiple() {
        sentence("one that is ON, or has a LEVEL, and if the BEATS DONE (of what PLAYS now) are a multiple of its own "
            + "BEATS");
        MoodPlayer x = new MoodPlayer();
        x.piece(LOOP, 5, 24, 0, 9);
        x.piece(LAYER, 2, 24, 0, 1);
        x.piece(LAYER, 3, 24, 0, 1);
        x.piece(LAYER, 64, 24, 0, 1);
        x.piece(LAYER, 1, 24, 0, 1);
        for (int layer = 1; layer <= 3; layer++) {
            x.layer(layer, 8);
        }
        x.play(0);
        is("0 0 0 0", levels(x, 1, 2, 3, 4));
        x.go(23);
        is("0 0 0 0", levels(x, 1, 2, 3, 4));
        x.go(1);
        is("0 0 0 0", levels(x, 1, 2, 3, 4));
        x.go(24);
        is("1 0 0 0", levels(x, 1, 2, 3, 4));
        x.go(24);
        is("1 1 0 0", levels(x, 1, 2, 3, 4));
        x.go(24);
        is("2 1 0 0", levels(x, 1, 2, 3, 4));
        x.go(24);
        is("0 0 2 0", plays(x));
        is("3 2 1 0", levels(x, 1, 2, 3, 4));
        x.layer(1, 0);
        x.go(24);
        is("3 2 1 0", levels(x, 1, 2, 3, 4));
        x.go(24);
        is("2 2 1 0", levels(x, 1, 2, 3, 4));
    }

    private static void belowTop() {
        sentence("ON: its LEVEL is 1 more, if it is below its TOP");
        MoodPlayer x = layered(2);
        x.layer(1, 1);
        x.play(0);
        x.go(24);
        is("1 1", levels(x, 1, 2));
        x.go(24 * 6);
        is("1 7", levels(x, 1, 2));
        MoodPlayer y = layered(1);
        y.joint(0, 8, 0, 0);
        y.play(0);
        y.go(24 * 8);
        is("8", levels(y, 1));
        y.go(24);
        is("8", levels(y, 1));
        y.layer(1, 2);
        y.go(48);
        is("8", levels(y, 1));
    }

    private static void belowSixteen() {
        sentence("and all LEVELS together are below 16");
        MoodPlayer x = layered(4);
        x.play(0);
        x.go(24 * 4);
        is("4 4 4 4", levels(x, 1, 2, 3, 4));
        x.go(24);
        is("4 4 4 4", levels(x, 1, 2, 3, 4));
        is(16, x.now(7));
        x.layer(4, 0);
        x.go(24);
        is("4 4 4 3", levels(x, 1, 2, 3, 4));
        is(15, x.now(7));
        x.go(24);
        is("5 4 4 2", levels(x, 1, 2, 3, 4));
        MoodPlayer y = layered(2);
        y.joint(0, 8, 0, 0);
        y.play(0);
        y.go(24 * 9);
        is("8 8", levels(y, 1, 2));
    }

    private static void off() {
        sentence("OFF: 1 less");
        MoodPlayer x = layered(2);
        x.play(0);
        x.go(48);
        x.layer(1, 0);
        is("2 2", levels(x, 1, 2));
        x.go(24);
        is("1 3", levels(x, 1, 2));
        x.go(24);
        is("0 4", levels(x, 1, 2));
        x.go(24);
        is("0 5", levels(x, 1, 2));
        is(5, x.now(7));
        x.layer(1, 8);
        x.go(24);
        is("1 6", levels(x, 1, 2));
    }

    private static void silenceOfLayers() {
        sentence("In SILENCE all LEVELS are 0.");
        MoodPlayer x = layered(2);
        x.go(1000);
        is("0 0", levels(x, 1, 2));
        x.play(0);
        x.go(24 * 8 - 1);
        is("7 7", levels(x, 1, 2));
        x.layer(2, 0);
        x.go(1);
        is("-1 0", nows(x, 0, 7));
        is("0 0", levels(x, 1, 2));
        x.play(0);
        x.go(24);
        is("1 0", levels(x, 1, 2));
    }

    /** A loop of 4 beats, and stings of 1, 2, 3, 4, 5 beats. */
    private static MoodPlayer stung() {
        MoodPlayer x = new MoodPlayer();
        x.piece(LOOP, 4, 24, 0, 9);
        for (int beats = 1; beats <= 5; beats++) {
            x.piece(STING, beats, 24, 0, 1);
        }
        return x;
    }

    private static void rowOfStings() {
        sentence("(c) STINGS wait in a row of at most 4.");
        MoodPlayer x = stung();
        for (int i = 1; i <= 4; i++) {
            is(i, x.sting(i));
        }
        is(NONE, x.sting(1));
        is("-1 4", stings(x));
        x.play(0);
        x.go(24);
        is("1 3", stings(x));
        is(4, x.sting(1));
        is(NONE, x.sting(1));
        x.go(24);
        is("2 3", stings(x));
        x.go(48);
        is("3 2", stings(x));
        x.go(96);
        is("4 1", stings(x));
        x.go(96);
        is("1 0", stings(x));
        is("24:5:1 48:6:1 48:5:2 96:6:2 96:3:0 96:5:3 168:6:3 192:3:0 192:5:4 288:6:4 288:3:0 288:5:1", log(x, 1));
    }

    private static void noneSounds() {
        sentence("If none SOUNDS");
        MoodPlayer x = stung();
        x.piece(STING, 1, 60, 0, 1);
        x.sting(6);
        x.sting(1);
        x.play(0);
        x.go(24);
        is("6 1", stings(x));
        x.go(48);
        is("6 1", stings(x));
        x.go(12);
        is("-1 1", stings(x));
        x.go(12);
        is("1 0", stings(x));
    }

    private static void beatsLeft() {
        sentence("and what PLAYS has at least as many BEATS left as the first one's BEATS");
        MoodPlayer x = stung();
        x.sting(3);
        x.play(0);
        is("-1 1", stings(x));
        x.go(24);
        is("3 0", stings(x));
        MoodPlayer y = stung();
        y.sting(4);
        y.sting(1);
        y.play(0);
        y.go(72);
        is("-1 2", stings(y));
        y.go(24);
        is("4 1", stings(y));
        MoodPlayer z = stung();
        z.sting(5);
        z.sting(1);
        z.play(0);
        z.go(20000);
        is("-1 2", stings(z));
        z.piece(BRIDGE, 6, 24, 0, 1);
        z.play(6);
        z.go(24);
        is("5 1", stings(z));
    }

    private static void ownLength() {
        sentence("it SOUNDS from now on, until its BEATS of its own length are over");
        MoodPlayer x = new MoodPlayer();
        x.piece(LOOP, 4, 24, 0, 9);
        x.piece(STING, 3, 100, 0, 1);
        x.piece(BRIDGE, 1, 2400, 0, 1);
        x.sting(1);
        x.play(0);
        x.go(24);
        is("1 0", stings(x));
        x.play(2);
        x.go(299);
        is("1 0", stings(x));
        x.go(1);
        is("-1 0", stings(x));
        is("24:5:1 24:0:2 324:6:1", log(x, 1));
    }

    private static void endsAhead() {
        sentence("(One that ends at the very time ends ahead of (a).)");
        MoodPlayer x = stung();
        x.sting(1);
        x.sting(2);
        x.play(0);
        x.go(48);
        is("0:0:0 24:5:1 48:6:1 48:5:2", log(x, 0));
        x.go(48);
        is("96:6:2 96:3:0", log(x, 4));
        MoodPlayer y = new MoodPlayer();
        y.piece(BRIDGE, 2, 24, 0, 1);
        y.piece(STING, 1, 24, 0, 1);
        y.sting(1);
        y.play(0);
        y.go(48);
        is("0:0:0 24:5:1 48:6:1 48:7:0", log(y, 0));
    }

    private static void silenceOfStings() {
        sentence("In SILENCE none begins.");
        MoodPlayer x = new MoodPlayer();
        x.piece(BRIDGE, 1, 24, 0, 1);
        x.piece(STING, 1, 24, 0, 1);
        x.sting(1);
        x.go(1000);
        is("-1 1", stings(x));
        x.play(0);
        x.go(24);
        is("-1 0 0 0", plays(x));
        is("-1 1", stings(x));
        x.go(1000);
        is("-1 1", stings(x));
        is("1000:0:0 1024:7:0", log(x, 0));
    }

    private static void logged() {
        sentence("THE LOG: of all that happened its time, what and number: 0 a PIECE is PLAYED (told to), 1 a JOINT TAKEN "
            + "by THE WAY, 2 a JOINT taken else, 3 a PIECE goes AGAIN, 4 a MOOD MET, 5 a STING begins, 6 it is over, "
            + "7 SILENCE (the PIECE that ended).");
        MoodPlayer x = new MoodPlayer();
        x.piece(STING, 1, 36, 0, 1);
        x.piece(LOOP, 2, 24, 0, 2);
        x.piece(BRIDGE, 1, 24, 128, 1);
        x.piece(BRIDGE, 2, 24, 0, 1);
        x.joint(1, 2, 3, 0);
        x.joint(3, 1, 2, 0);
        x.go(5);
        x.play(1);
        x.sting(0);
        x.go(24 * 4);
        x.ask(7);
        x.go(24 * 2);
        is("5:0:1 29:5:0 53:3:1 65:6:0 101:2:0 125:1:1 125:4:7 149:7:2", log(x, 0));
        x.ask(7);
        x.leave();
        x.layer(0, 1);
        x.go(100);
        is(8, x.now(8));
    }

    private static void latestEvents() {
        sentence("The latest 300 are kept.");
        MoodPlayer x = new MoodPlayer();
        x.piece(LOOP, 1, 24, 0, 1);
        x.play(0);
        x.go(24 * 298);
        is(299, x.now(8));
        is("0:0:0", event(x, 0));
        is("7152:3:0", event(x, 298));
        x.go(24);
        is(300, x.now(8));
        is("0:0:0", event(x, 0));
        is("7176:3:0", event(x, 299));
        x.go(24);
        is(300, x.now(8));
        is("24:3:0", event(x, 0));
        is("48:3:0", event(x, 1));
        is("7200:3:0", event(x, 299));
        noElement(() -> x.log(300, 0));
        x.go(300 * 24);
        is(300, x.now(8));
        is("7224:3:0", event(x, 0));
        is("14400:3:0", event(x, 299));
        x.play(0);
        is("7248:3:0", event(x, 0));
        is("14400:0:0", event(x, 299));
    }

    // ---- 4. what is kept ----

    /** In the middle of a beat: a loop in its second turn, a mood open, a layer, a sting that sounds, two that wait. */
    private static MoodPlayer busy() {
        MoodPlayer x = new MoodPlayer();
        x.piece(LOOP, 4, 24, 0, 9);
        x.piece(LOOP, 2, 24, 1, 9);
        x.piece(LAYER, 1, 24, 0, 1);
        x.piece(STING, 2, 24, 0, 1);
        x.piece(STING, 1, 24, 0, 1);
        x.joint(0, 4, 1, 0);
        x.play(0);
        x.go(96);
        x.layer(2, 7);
        x.sting(3);
        x.sting(4);
        x.sting(3);
        x.go(48 + 10);
        x.ask(0);
        return x;
    }

    private static void allIsKept() {
        sentence("KEPT: all of 2. and 3. but THE LOG may be kept in one of 4 SLOTS, and gone on from later");
        MoodPlayer x = busy();
        String kept = "0 2 2 10 0 3 2 2";
        is(kept, nows(x, 0, 1, 2, 3, 4, 5, 6, 7));
        x.keep(3);
        is(kept, nows(x, 0, 1, 2, 3, 4, 5, 6, 7));
        x.go(14);
        is("1", x.way(NONE));
        x.go(3000);
        x.layer(2, 0);
        x.go(500);
        x.leave();
        is(true, x.goOn(3));
        is(kept, nows(x, 0, 1, 2, 3, 4, 5, 6, 7));
        is("2", levels(x, 2));
        is("0 38", way(x) + " " + x.cost());
        int events = x.now(8);
        x.go(14);
        is("3", levels(x, 2));
        is("168:6:3 168:5:4", log(x, events));
        x.go(24);
        is("168:6:3 168:5:4 192:6:4 192:1:0 192:4:0 192:5:3", log(x, events));
        is(7, x.layer(2, 0));
        x.goOn(3);
        is(kept, nows(x, 0, 1, 2, 3, 4, 5, 6, 7));
    }

    private static void logIsNotKept() {
        sentence("all of 2. and 3. but THE LOG");
        MoodPlayer x = busy();
        int events = x.now(8);
        x.keep(0);
        x.go(38);
        int later = x.now(8);
        is(true, later > events);
        x.goOn(0);
        is(later, x.now(8));
        is("192:5:3", lastEvent(x));
        x.play(1);
        is("154:0:1 154:4:0", log(x, later));
    }

    private static void fourSlots() {
        sentence("in one of 4 SLOTS");
        MoodPlayer x = three();
        for (int slot = 0; slot <= 3; slot++) {
            is(false, x.keep(slot));
            x.go(10 + slot);
        }
        is(46, x.go(0));
        int[] due = {0, 10, 21, 33};
        for (int slot = 3; slot >= 0; slot--) {
            is(true, x.goOn(slot));
            is(due[slot], x.go(0));
        }
        for (int slot : new int[] {-1, 4, LEAST, HIGHEST}) {
            badArgument(() -> x.keep(slot));
            badArgument(() -> x.goOn(slot));
        }
        x.go(5);
        is(true, x.keep(2));
        x.goOn(1);
        is(10, x.go(0));
        x.goOn(2);
        is(5, x.go(0));
        x.goOn(3);
        is(33, x.go(0));
    }

    private static void scoreStays() {
        sentence("PIECES, JOINTS, PRICES stay as they are then");
        MoodPlayer x = busy();
        x.keep(1);
        is(5, x.piece(LAYER, 1, 24, 0, 1));
        is(1, x.joint(0, 3, 1, 0));
        x.price(0, 77);
        x.price(1, 66);
        x.layer(5, 3);
        x.go(24);
        is(1, x.level(5));
        x.goOn(1);
        is("6 2", nows(x, 9, 10));
        is("0 0", levels(x, 5) + " " + x.layer(5, 0));
        is("77 66", x.price(0, 10) + " " + x.price(1, 1));
        is(NONE, x.joint(0, 3, 1, 0));
    }

    private static void wayAnewFromASlot() {
        sentence("THE WAY is found anew, if a MOOD is open");
        MoodPlayer x = busy();
        x.keep(0);
        x.joint(0, 3, 1, 0);
        x.play(0);
        x.go(72);
        is("1 -1", nows(x, 0, 4));
        x.goOn(0);
        is("1 14", way(x) + " " + x.cost());
        x.leave();
        x.keep(1);
        x.ask(0);
        x.goOn(1);
        is("none -1", way(x) + " " + x.now(4));
        x.go(24);
        is("0 3 2 10", plays(x));
        MoodPlayer y = three();
        y.joint(0, 4, 1, 0);
        y.ask(0);
        y.keep(0);
        y.play(0);
        is("0", way(y));
        y.goOn(0);
        is("none -1 0", way(y) + " " + nows(y, 0, 4));
    }

    private static void timeAsKept() {
        sentence("TIME is as it was kept");
        MoodPlayer x = three();
        x.go(777);
        x.keep(0);
        x.go(20000);
        is(true, x.goOn(0));
        is(777, x.go(0));
        x.play(0);
        is("777:0:0", lastEvent(x));
        x.go(30);
        x.keep(0);
        x.go(20000);
        x.goOn(0);
        is(807, x.go(0));
        is("0 1 1 6", plays(x));
        is(825, x.go(18));
        is("0 2 1 0", plays(x));
    }
}
