/**
 * A call that is refused changes nothing, nor does one that only looks: of two objects alike one is called so,
 * and both answer alike from there on.
 */
public final class RefusedTest extends Check {
    private static final int NO = 7;

    /** What is called on an object; its answer is that of a call that was refused, or any if it only looks. */
    private interface Deed {
        Object on(MoodPlayer x);
    }

    public static void main(String[] args) {
        check(RefusedTest::refusedByNone);
        check(RefusedTest::refusedByFalse);
        check(RefusedTest::refusedByException);
        check(RefusedTest::looks);
        check(RefusedTest::refusedWhenFull);
        end("refused calls change nothing");
    }

    /**
     * In the middle of a beat, in the second turn: a mood open with a way of two steps, two layers, a sting that
     * sounds, four that wait, a slot with another time, and one with nothing.
     */
    private static MoodPlayer busy() {
        MoodPlayer x = new MoodPlayer();
        x.piece(LOOP, 4, 24, 0, 9);
        x.piece(BRIDGE, 2, 36, 0, 2);
        x.piece(LOOP, 3, 24, 1, 3);
        x.piece(LAYER, 1, 24, 0, 1);
        x.piece(LAYER, 2, 24, 0, 1);
        x.piece(STING, 2, 30, 0, 1);
        x.piece(STING, 1, 24, 0, 1);
        x.joint(0, 4, 1, 5);
        x.joint(1, 2, 2, 5);
        x.joint(2, 3, 0, 9);
        x.keep(0);
        x.play(0);
        x.go(96);
        x.layer(3, 3);
        x.layer(4, 8);
        x.sting(5);
        x.go(24);
        for (int i = 0; i < 4; i++) {
            x.sting(5 + i % 2);
        }
        x.ask(0);
        x.go(11);
        x.keep(2);
        x.go(6);
        return x;
    }

    private static String look(MoodPlayer x) {
        return nows(x, 0, 1, 2, 3, 4, 5, 6, 7, 8, 9, 10) + " way " + way(x) + " cost " + x.cost() + " levels "
            + levels(x, 0, 1, 2, 3, 4, 5, 6) + " log " + log(x, 0) + " time " + x.go(0);
    }

    /** How both go on: by time, by prices and tops that are told, by their slots. */
    private static String later(MoodPlayer x) {
        StringBuilder row = new StringBuilder();
        x.go(49);
        row.append(look(x)).append('\n');
        x.go(300);
        row.append(x.layer(3, 0)).append(' ').append(x.layer(4, 1)).append(' ');
        row.append(x.price(0, 3)).append(' ').append(x.price(1, 2)).append(' ');
        row.append(x.leave()).append(' ').append(x.goOn(2)).append(' ').append(plays(x)).append(' ').append(way(x));
        row.append(' ').append(x.go(0)).append(' ').append(x.goOn(0)).append(' ').append(plays(x)).append(' ').append(x.go(0));
        row.append(' ').append(x.goOn(1)).append(' ').append(x.goOn(3)).append(' ');
        row.append(x.joint(0, 1, 2, 0)).append(' ').append(x.piece(LOOP, 1, 24, 0, 1));
        return row.toString();
    }

    private static void changesNothing(Object due, Deed deed) {
        MoodPlayer one = busy();
        MoodPlayer other = busy();
        if (due != null) {
            is(due, told(() -> deed.on(other)));
        } else {
            told(() -> deed.on(other));
        }
        is(look(one), look(other));
        is(later(one), later(other));
    }

    private static void refused(Deed deed) {
        changesNothing(NONE, deed);
    }

    private static void noElementAndNoChange(Deed deed) {
        changesNothing("NoSuchElementException", deed);
    }

    private static void badArgumentAndNoChange(Deed deed) {
        changesNothing("IllegalArgumentException", deed);
    }

    private static void refusedByNone() {
        sentence("a call that answers NONE changes nothing");
        refused(x -> x.piece(4, 1, 24, 0, 1));
        refused(x -> x.piece(LOOP, 65, 24, 0, 1));
        refused(x -> x.piece(LOOP, 1, 2401, 0, 1));
        refused(x -> x.piece(LOOP, 1, 24, 256, 1));
        refused(x -> x.piece(LAYER, 1, 24, 1, 1));
        refused(x -> x.piece(LOOP, 1, 24, 0, 10));
        refused(x -> x.joint(0, 4, 1, 0));
        refused(x -> x.joint(0, 5, 2, 0));
        refused(x -> x.joint(0, 2, 2, 100));
        refused(x -> x.joint(0, 2, 3, 0));
        refused(x -> x.joint(5, 1, 2, 0));
        refused(x -> x.layer(0, 1));
        refused(x -> x.layer(5, 1));
        refused(x -> x.layer(3, 9));
        refused(x -> x.layer(4, -1));
        refused(x -> x.sting(5));
        refused(x -> x.sting(3));
    }

    private static void refusedByFalse() {
        sentence("a call that answers false changes nothing");
        changesNothing(false, x -> x.play(3));
        changesNothing(false, x -> x.play(5));
        changesNothing(false, x -> x.goOn(1));
        changesNothing(false, x -> x.goOn(3));
    }

    private static void refusedByException() {
        sentence("a call that throws changes nothing");
        noElementAndNoChange(x -> x.joint(NO, 1, 0, 0));
        noElementAndNoChange(x -> x.joint(0, 1, NO, 0));
        noElementAndNoChange(x -> x.play(NO));
        noElementAndNoChange(x -> x.play(-1));
        noElementAndNoChange(x -> x.way(2));
        noElementAndNoChange(x -> x.reach(NO, 0));
        noElementAndNoChange(x -> x.lacks(3, 0));
        noElementAndNoChange(x -> x.layer(NO, 1));
        noElementAndNoChange(x -> x.sting(NO));
        noElementAndNoChange(x -> x.now(11));
        noElementAndNoChange(x -> x.level(NO));
        noElementAndNoChange(x -> x.log(300, 0));
        badArgumentAndNoChange(x -> x.price(2, 0));
        badArgumentAndNoChange(x -> x.price(0, 100));
        badArgumentAndNoChange(x -> x.price(1, -1));
        badArgumentAndNoChange(x -> x.ask(8));
        badArgumentAndNoChange(x -> x.ask(-1));
        badArgumentAndNoChange(x -> x.reach(0, 8));
        badArgumentAndNoChange(x -> x.lacks(0, -1));
        badArgumentAndNoChange(x -> x.go(-1));
        badArgumentAndNoChange(x -> x.go(20001));
        badArgumentAndNoChange(x -> x.keep(4));
        badArgumentAndNoChange(x -> x.goOn(-1));
    }

    private static void looks() {
        sentence("a call that only looks changes nothing");
        changesNothing(null, x -> x.way(0));
        changesNothing(null, x -> x.way(NONE));
        changesNothing(null, x -> x.cost());
        changesNothing(null, x -> x.reach(0, 0));
        changesNothing(null, x -> x.reach(1, 7));
        changesNothing(null, x -> x.lacks(0, 0));
        changesNothing(null, x -> x.lacks(2, 7));
        changesNothing(null, x -> x.now(0));
        changesNothing(null, x -> x.level(3));
        changesNothing(null, x -> x.log(0, 0));
        changesNothing(0, x -> x.price(0, 10) - 10);
        changesNothing(137, x -> x.go(0));
        changesNothing(2, x -> x.ask(0));
    }

    private static void refusedWhenFull() {
        sentence("a piece beyond 20, a joint beyond 100 changes nothing");
        MoodPlayer x = busy();
        for (int i = 7; i < 20; i++) {
            x.piece(LOOP, 64, 24, 0, 1);
        }
        for (int i = 3; i < 100; i++) {
            x.joint(7 + i % 2, i / 2 + 1, 9, 0);
        }
        is("20 100", nows(x, 9, 10));
        String before = look(x);
        is(NONE, x.piece(LOOP, 1, 24, 1, 1));
        is(NONE, x.joint(0, 3, 2, 0));
        is(before, look(x));
    }
}
