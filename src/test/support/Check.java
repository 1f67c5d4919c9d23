import java.util.NoSuchElementException;

/**
 * What the tests of the document's sentences share; a wrong answer is told with its sentence and its line.
 * A test extends it, since a class without a package can't be imported from.
 */
public class Check {
    public static final int NONE = -1;
    public static final int LOOP = 0;
    public static final int BRIDGE = 1;
    public static final int LAYER = 2;
    public static final int STING = 3;
    /** Numbers far outside of every range that the document names. */
    public static final int LEAST = Integer.MIN_VALUE;
    public static final int HIGHEST = Integer.MAX_VALUE;

    private static final String NO_ELEMENT = "NoSuchElementException";
    private static final String BAD_ARGUMENT = "IllegalArgumentException";
    private static int wrong = 0;
    private static String sentence = "";

    protected Check() {
    }

    public interface Call {
        Object answer();
    }

    /** The checks from here on belong to this sentence of the document. */
    public static void sentence(String words) {
        sentence = words;
    }

    /** Runs the test of a sentence; what it throws is told as its fault, and the others still run. */
    public static void check(Runnable test) {
        try {
            test.run();
        } catch (RuntimeException e) {
            wrong++;
            System.out.println("'" + sentence + "' ended with " + e);
        }
    }

    public static void is(Object due, Object got) {
        if (!String.valueOf(due).equals(String.valueOf(got))) {
            wrong++;
            System.out.println("'" + sentence + "' line " + line() + ": answered " + got + ", due is " + due);
        }
    }

    public static void noElement(Call call) {
        is(NO_ELEMENT, told(call));
    }

    public static void badArgument(Call call) {
        is(BAD_ARGUMENT, told(call));
    }

    /** The answer, or the name of the exception's very class. */
    public static String told(Call call) {
        try {
            return String.valueOf(call.answer());
        } catch (NoSuchElementException | IllegalArgumentException e) {
            return e.getClass().getSimpleName();
        }
    }

    public static void end(String allIsWell) {
        if (wrong > 0) {
            System.exit(1);
        }
        System.out.println(allIsWell);
    }

    private static int line() {
        for (StackTraceElement frame : new Throwable().getStackTrace()) {
            if (!frame.getClassName().equals("Check")) {
                return frame.getLineNumber();
            }
        }
        return 0;
    }

    /** What now tells of some whats, in one row. */
    public static String nows(MoodPlayer x, int... whats) {
        StringBuilder row = new StringBuilder();
        for (int what : whats) {
            row.append(row.length() == 0 ? "" : " ").append(x.now(what));
        }
        return row.toString();
    }

    /** What PLAYS, its BEATS DONE, TURNS and 24ths of the BEAT. */
    public static String plays(MoodPlayer x) {
        return nows(x, 0, 1, 2, 3);
    }

    /** The STING that SOUNDS, and how many wait. */
    public static String stings(MoodPlayer x) {
        return nows(x, 5, 6);
    }

    public static String levels(MoodPlayer x, int... pieces) {
        StringBuilder row = new StringBuilder();
        for (int piece : pieces) {
            row.append(row.length() == 0 ? "" : " ").append(x.level(piece));
        }
        return row.toString();
    }

    /** THE WAY that is left, as a row of numbers. */
    public static String way(MoodPlayer x) {
        int steps = x.way(NONE);
        StringBuilder row = new StringBuilder();
        for (int i = 0; i < steps; i++) {
            row.append(i == 0 ? "" : " ").append(x.way(i));
        }
        return steps == NONE ? "none" : row.toString();
    }

    /** The i-th event as time:what:number. */
    public static String event(MoodPlayer x, int i) {
        return x.log(i, 0) + ":" + x.log(i, 1) + ":" + x.log(i, 2);
    }

    /** All events from one on. */
    public static String log(MoodPlayer x, int from) {
        StringBuilder row = new StringBuilder();
        int events = x.now(8);
        for (int i = from; i < events; i++) {
            row.append(i == from ? "" : " ").append(event(x, i));
        }
        return row.toString();
    }

    public static String lastEvent(MoodPlayer x) {
        return event(x, x.now(8) - 1);
    }
}
