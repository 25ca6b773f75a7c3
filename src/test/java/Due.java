import java.util.ArrayList;
import java.util.List;

/** What the tests share: answers are compared with those that are due, and counted. */
final class Due {
    /** A call that may throw. */
    interface Call {
        Object make();
    }

    /** Makes a broker and calls it up to the point that is tested. */
    interface Setup {
        FrameBroker make();
    }

    /** A call of the broker that it is given. */
    interface CallOn {
        Object make(FrameBroker x);
    }

    /** A question about a window. */
    interface Question {
        Object ask(FrameBroker x, int window);
    }

    private static final List<String> WRONG = new ArrayList<>();
    private static int count = 0;

    private Due() {
    }

    static void is(String what, Object got, Object want) {
        count++;
        if (!want.equals(got)) {
            WRONG.add(what + " answered " + got + ", due is " + want);
        }
    }

    /**
     * The call throws exactly this exception, and changes nothing: the broker tells the same as
     * one without the call, at once and some ticks later. Each case has brokers of its own, as a
     * broker serves 512 calls only.
     */
    static void isRefused(String what, Setup setup, Class<?> kind, CallOn call) {
        FrameBroker x = setup.make();
        FrameBroker same = setup.make();
        is(what, answer(() -> call.make(x)), "throws " + kind.getSimpleName());
        is("the state behind " + what, state(x), state(same));
        is("advance behind " + what, answer(() -> x.advance(9)), answer(() -> same.advance(9)));
        is("the state later than " + what, state(x), state(same));
    }

    /** The question is refused about windows that are not there, whatever their numbers. */
    static void isRefusedForNoWindow(String what, Question question) {
        Class<?> index = IndexOutOfBoundsException.class;
        isRefused(what + "(0) of none", FrameBroker::new, index, x -> question.ask(x, 0));
        for (int none : noWindows(3)) {
            isRefused(what + "(" + none + ")", () -> threeWindows(-1), index,
                    x -> question.ask(x, none));
        }
        for (int closed = 0; closed < 3; closed++) {
            int window = closed;
            isRefused(what + " of a closed one", () -> threeWindows(window), index,
                    x -> question.ask(x, window));
        }
        for (int window = 0; window < 3; window++) {
            FrameBroker x = threeWindows(-1);
            String before = state(x);
            question.ask(x, window);
            is("the state behind " + what, state(x), before);
        }
    }

    private static FrameBroker threeWindows(int closed) {
        FrameBroker x = new FrameBroker();
        x.open(0, 0, 3, 3, false, 2, 3);
        x.open(2, 2, 3, 3, true, 5, 2);
        x.open(4, 4, 3, 2, false, 7, 1);
        x.advance(6);
        if (closed >= 0) {
            x.close(closed);
        }
        return x;
    }

    /** The answer, or the name of what is thrown. */
    static Object answer(Call call) {
        try {
            return call.make();
        } catch (RuntimeException e) {
            return "throws " + e.getClass().getSimpleName();
        }
    }

    /** All that a broker tells of itself, as far as its calls tell it (some 150 calls at most). */
    static String state(FrameBroker x) {
        StringBuilder text = new StringBuilder();
        text.append("tick ").append(x.tick()).append(" windows ").append(x.windows());
        text.append(" free ").append(x.free()).append(" damage ").append(x.damage()).append('\n');
        for (int row = 0; row < 6; row++) {
            for (int column = 0; column < 8; column++) {
                text.append(x.at(column, row)).append(' ');
            }
            text.append('\n');
        }
        int left = x.windows();
        for (int w = 0; w < 40 && left > 0; w++) {
            String told = window(x, w);
            text.append(told);
            if (!told.isEmpty()) {
                left--;
            }
        }
        return text.toString();
    }

    private static String window(FrameBroker x, int w) {
        try {
            return "window " + w + ": place " + x.placeOf(w) + " seen " + x.isSeen(w) + " pages "
                    + x.pagesOf(w) + " picture " + x.picture(w) + " pace " + x.pace(w)
                    + " misses " + x.misses(w) + " deadline " + x.deadline(w) + "\n";
        } catch (IndexOutOfBoundsException e) {
            return "";
        }
    }

    /** Ends a test: the exit code is 1 if an answer was wrong. */
    static void end() {
        for (int i = 0; i < WRONG.size() && i < 20; i++) {
            System.out.println(WRONG.get(i));
        }
        System.out.println(count + " answers, " + WRONG.size() + " not as due");
        if (!WRONG.isEmpty() || count == 0) {
            System.exit(1);
        }
    }

    /** An opaque window with a slow and cheap task. */
    static int box(FrameBroker x, int column, int row, int width, int height) {
        return x.open(column, row, width, height, false, 100, 1);
    }

    /**
     * A screen whose 24 pages are lent: window 0 of one cell, at column 7 and row 5, is
     * seen, and has no surface; window 1 of 10 pages is seen in the columns 0 to 5 of the rows 0
     * to 4 alone, through window 4, which is clear.
     */
    static FrameBroker seenWithoutSurface() {
        FrameBroker x = new FrameBroker();
        box(x, 7, 5, 1, 1);
        box(x, 0, 0, 8, 5);
        box(x, 6, 0, 2, 5);
        box(x, 0, 5, 8, 1);
        x.open(0, 0, 6, 6, true, 100, 1);
        x.move(3, 0, 0);
        return x;
    }

    static void pass(FrameBroker x, int ticks) {
        for (int left = ticks; left > 0; left -= 200) {
            x.advance(Math.min(left, 200));
        }
    }

    /** Window numbers that no window bears in a broker whose numbers are below 'opened'. */
    static int[] noWindows(int opened) {
        return new int[] {-1, opened, opened + 1, 39, 40, 41, Integer.MIN_VALUE, Integer.MAX_VALUE};
    }

    /** Cells that are not on the screen. */
    static int[][] noCells() {
        return new int[][] {{-1, 0}, {8, 0}, {0, -1}, {0, 6}, {-1, -1}, {8, 6},
            {Integer.MIN_VALUE, 0}, {0, Integer.MIN_VALUE}, {Integer.MAX_VALUE, 0},
            {0, Integer.MAX_VALUE}, {-8, 1}, {16, -1}};
    }
}
