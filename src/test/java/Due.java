import java.util.ArrayList;
import java.util.List;

/** What the tests share: answers are compared with those that are due, and counted. */
final class Due {
    /** A call that may throw. */
    interface Call {
        Object make();
    }

    /** Makes a broker and calls it up to the point that is tested. */
    interface Setup {
        FrameBroker make();
    }

    /** A call of the broker that it is given. */
    interface CallOn {
        Object make(FrameBroker x);
    }

    /** A question about a window. */
    interface Question {
        Object ask(FrameBroker x, int window);
    }

    private static final List<String> WRONG = new ArrayList<>();
    private static int count = 0;
    private static String sentence = "";
    private static int countBefore = -1;

    private Due() {
    }

    static void is(String what, Object got, Object want) {
        count++;
        if (!want.equals(got)) {
            WRONG.add(sentence + what + " answered " + got + ", due is " + want);
        }
    }

    /** What follows tests this sentence of the document; one that nothing tests is wrong. */
    static void says(String text) {
        if (count == countBefore) {
            WRONG.add(sentence + "nothing tests this sentence");
        }
        countBefore = count;
        sentence = "[" + text + "] ";
    }

    /** The call throws exactly this exception; what it leaves behind is looked at elsewhere. */
    static void isThrown(String what, Class<?> kind, Call call) {
        is(what, answer(call), "throws " + kind.getSimpleName());
    }

    /**
     * The call throws exactly this exception, and changes nothing: the broker tells the same as
     * one without the call, at once, some ticks later, and when the screen is looked at anew
     * behind a raising or an opening. Each case has brokers of its own, as a broker serves 512
     * calls only.
     */
    static void isRefused(String what, Setup setup, Class<?> kind, CallOn call) {
        FrameBroker x = setup.make();
        FrameBroker same = setup.make();
        is(what, answer(() -> call.make(x)), "throws " + kind.getSimpleName());
        is("the state behind " + what, state(x), state(same));
        is("advance behind " + what, answer(() -> x.advance(9)), answer(() -> same.advance(9)));
        is("the state later than " + what, state(x), state(same));
        is("a change behind " + what, change(x), change(same));
        is("the state behind a change", state(x), state(same));
    }

    /** Raises a window that is shown, or opens one. */
    private static Object change(FrameBroker x) {
        for (int cell : new int[] {0, 7, 47, 40, 27}) {
            int window = x.at(cell % 8, cell / 8);
            if (window != FrameBroker.NONE) {
                return x.lay(window, true);
            }
        }
        return answer(() -> box(x, 3, 3, 1, 1));
    }

    /** The question is refused about windows that are not there, whatever their numbers. */
    static void isRefusedForNoWindow(String what, Question question) {
        Class<?> index = IndexOutOfBoundsException.class;
        isRefused(what + "(0) of none", FrameBroker::new, index, x -> question.ask(x, 0));
        for (int none : noWindows(3)) {
            isRefused(what + "(" + none + ")", () -> threeWindows(-1), index,
                    x -> question.ask(x, none));
        }
        for (int closed = 0; closed < 3; closed++) {
            int window = closed;
            isRefused(what + " of a closed one", () -> threeWindows(window), index,
                    x -> question.ask(x, window));
        }
        for (int window = 0; window < 3; window++) {
            FrameBroker x = threeWindows(-1);
            String before = state(x);
            question.ask(x, window);
            is("the state behind " + what, state(x), before);
        }
    }

    /** The question is answered for the first and the last of 8 windows, and of 40 ever. */
    static void isAnsweredForEachWindow(String what, Question question) {
        for (int count = 1; count <= 8; count++) {
            FrameBroker x = eightOfForty(count);
            for (int window = -2; window <= 42; window++) {
                int asked = window;
                boolean isThere = window >= 40 - count && window < 40;
                Object answer = answer(() -> question.ask(x, asked));
                is(what + "(" + window + ") of " + count + " windows is refused",
                        "throws IndexOutOfBoundsException".equals(answer), !isThere);
            }
        }
        FrameBroker x = new FrameBroker();
        for (int number = 0; number < 8; number++) {
            int window = number;
            isThrown(what + "(" + number + ") ahead of its opening",
                    IndexOutOfBoundsException.class, () -> question.ask(x, window));
            box(x, number, 0, 1, 1);
            is(what + "(" + number + ") is refused", String.valueOf(answer(
                    () -> question.ask(x, window))).startsWith("throws"), false);
        }
    }

    /** The last windows of the 40 that there can ever be, with the numbers up to 39. */
    static FrameBroker eightOfForty(int count) {
        FrameBroker x = new FrameBroker();
        for (int number = 0; number < 40; number++) {
            box(x, number % 8, 0, 1, 1);
            if (number < 40 - count) {
                x.close(number);
            }
        }
        return x;
    }

    private static FrameBroker threeWindows(int closed) {
        FrameBroker x = new FrameBroker();
        x.open(0, 0, 3, 3, false, 2, 3);
        x.open(2, 2, 3, 3, true, 5, 2);
        x.open(4, 4, 3, 2, false, 7, 1);
        x.advance(6);
        if (closed >= 0) {
            x.close(closed);
        }
        return x;
    }

    /** The answer, or the name of what is thrown. */
    static Object answer(Call call) {
        try {
            return call.make();
        } catch (RuntimeException e) {
            return "throws " + e.getClass().getSimpleName();
        }
    }

    /** All that a broker tells of itself, as far as its calls tell it (some 150 calls at most). */
    static String state(FrameBroker x) {
        StringBuilder text = new StringBuilder();
        text.append("tick ").append(x.tick()).append(" windows ").append(x.windows());
        text.append(" free ").append(x.free()).append(" damage ").append(x.damage()).append('\n');
        for (int row = 0; row < 6; row++) {
            for (int column = 0; column < 8; column++) {
                text.append(x.at(column, row)).append(' ');
            }
            text.append('\n');
        }
        int left = x.windows();
        for (int w = 0; w < 40 && left > 0; w++) {
            String told = window(x, w);
            text.append(told);
            if (!told.isEmpty()) {
                left--;
            }
        }
        return text.toString();
    }

    private static String window(FrameBroker x, int w) {
        try {
            return "window " + w + ": place " + x.placeOf(w) + " seen " + x.isSeen(w) + " pages "
                    + x.pagesOf(w) + " picture " + x.picture(w) + " pace " + x.pace(w)
                    + " misses " + x.misses(w) + " deadline " + x.deadline(w) + "\n";
        } catch (IndexOutOfBoundsException e) {
            return "";
        }
    }

    /** Ends a test: the exit code is 1 if an answer was wrong. */
    static void end() {
        says("the end");
        for (int i = 0; i < WRONG.size() && i < 20; i++) {
            System.out.println(WRONG.get(i));
        }
        System.out.println(count + " answers, " + WRONG.size() + " not as due");
        if (!WRONG.isEmpty() || count == 0) {
            System.exit(1);
        }
    }

    /** An opaque window with a slow and cheap task. */
    static int box(FrameBroker x, int column, int row, int width, int height) {
        return x.open(column, row, width, height, false, 100, 1);
    }

    /**
     * A screen whose 24 pages are lent: window 0 of one cell, at column 7 and row 5, is
     * seen, and has no surface; window 1 of 10 pages is seen in the columns 0 to 5 of the rows 0
     * to 4 alone, through window 4, which is clear.
     */
    static FrameBroker seenWithoutSurface() {
        FrameBroker x = new FrameBroker();
        box(x, 7, 5, 1, 1);
        box(x, 0, 0, 8, 5);
        box(x, 6, 0, 2, 5);
        box(x, 0, 5, 8, 1);
        x.open(0, 0, 6, 6, true, 100, 1);
        x.move(3, 0, 0);
        return x;
    }

    /**
     * A screen whose 24 pages are lent to windows that are all seen, but for two that are seen
     * and have no surface: the windows 0 and 1 of one cell and one page each, at the columns 7
     * and 6 of row 5. The others, from the bottom: 2 of 10 pages is seen in row 0, 3 of 8 pages
     * in the rows 1 and 2, 4 of 4 pages in row 4 (it lies in the rows 3 and 4), 5 and 6 of one
     * page each in row 3.
     */
    static FrameBroker twoStarve() {
        FrameBroker x = new FrameBroker();
        x.open(7, 5, 1, 1, false, 10, 3);
        x.open(6, 5, 1, 1, false, 10, 3);
        box(x, 0, 0, 8, 5);
        box(x, 0, 1, 8, 4);
        box(x, 0, 4, 8, 2);
        box(x, 0, 3, 4, 1);
        box(x, 4, 3, 4, 1);
        x.move(4, 0, 3);
        return x;
    }

    /**
     * Windows of the given pages, 4 in all at most, each in one row; and above them two of 10
     * pages that hide them: one is seen in row 0, one in the rows below. What is left of 4 pages
     * is free.
     */
    static FrameBroker asleep(int... pages) {
        FrameBroker x = new FrameBroker();
        for (int needed : pages) {
            ofPages(x, needed);
        }
        box(x, 0, 0, 8, 5);
        box(x, 0, 1, 8, 5);
        return x;
    }

    /** A window of so many pages, from 1 to 8, below row 1. */
    static int ofPages(FrameBroker x, int pages) {
        int[][] sizes = {{4, 1}, {8, 1}, {6, 2}, {8, 2}, {5, 4}, {8, 3}, {7, 4}, {8, 4}};
        return box(x, 0, 2, sizes[pages - 1][0], sizes[pages - 1][1]);
    }

    /**
     * Window 1, of the period 1 and the cost 1, has missed at the ticks 1, 2, 4 and 8 beside
     * window 0, which had all the slices and is closed at 8: its pace is 8, its deadline 16.
     */
    static FrameBroker paceEight() {
        FrameBroker x = new FrameBroker();
        x.open(0, 0, 1, 1, false, 1, 20);
        x.open(1, 0, 1, 1, false, 1, 1);
        x.advance(8);
        x.close(0);
        return x;
    }

    static void pass(FrameBroker x, int ticks) {
        for (int left = ticks; left > 0; left -= 200) {
            x.advance(Math.min(left, 200));
        }
    }

    /** Numbers outside a range: next to its ends, and the least and the greatest of all. */
    static int[] outside(int first, int last) {
        return new int[] {first - 1, last + 1, first - 2, last + 2, -1 - last, Integer.MIN_VALUE,
            Integer.MAX_VALUE, Integer.MIN_VALUE + 1, Integer.MAX_VALUE - 1};
    }

    /** Window numbers that no window bears in a broker whose numbers are below 'opened'. */
    static int[] noWindows(int opened) {
        return new int[] {-1, opened, opened + 1, 39, 40, 41, Integer.MIN_VALUE, Integer.MAX_VALUE};
    }

    /** Cells that are not on the screen. */
    static int[][] noCells() {
        return new int[][] {{-1, 0}, {8, 0}, {0, -1}, {0, 6}, {-1, -1}, {8, 6},
            {Integer.MIN_VALUE, 0}, {0, Integer.MIN_VALUE}, {Integer.MAX_VALUE, 0},
            {0, Integer.MAX_VALUE}, {-8, 1}, {16, -1}};
    }
}
