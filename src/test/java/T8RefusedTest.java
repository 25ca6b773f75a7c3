/** Terms: a call that throws changes nothing, and throws what its lines name first. */
public final class T8RefusedTest {
    private static final Class<?> ARGUMENT = IllegalArgumentException.class;
    private static final Class<?> STATE = IllegalStateException.class;
    private static final Class<?> INDEX = IndexOutOfBoundsException.class;
    private static final int MIN = Integer.MIN_VALUE;
    private static final int MAX = Integer.MAX_VALUE;

    /** Arguments of open that are out of range, one of them or more. */
    private static final int[][] OUT_OF_RANGE = {{-1, 0, 1, 1, 1, 1}, {8, 0, 1, 1, 1, 1},
        {0, -1, 1, 1, 1, 1}, {0, 6, 1, 1, 1, 1}, {0, 0, 0, 1, 1, 1}, {0, 0, 9, 1, 1, 1},
        {1, 0, 8, 1, 1, 1}, {0, 0, 1, 0, 1, 1}, {0, 0, 1, 7, 1, 1}, {0, 1, 1, 6, 1, 1},
        {0, 0, 1, 1, 0, 1}, {0, 0, 1, 1, 101, 1}, {0, 0, 1, 1, 1, 0}, {0, 0, 1, 1, 1, 21},
        {MAX, MAX, MAX, MAX, MAX, MAX}, {MIN, MIN, MIN, MIN, MIN, MIN}};

    /**
     * Of the windows 0, 1, 2, 3, 4, 6 and 8 at the tick 17, 2 is seen and has no surface, though
     * 8 pages are free; 6 is asleep; 0, 1 and 8 have frames under way, and 8 has missed.
     */
    private static FrameBroker busy() {
        FrameBroker x = Due.twoStarve();
        x.advance(9);
        Due.box(x, 0, 0, 8, 1);
        x.advance(2);
        x.close(7);
        x.open(0, 1, 2, 2, true, 4, 20);
        x.lay(6, false);
        x.close(5);
        x.show();
        x.advance(6);
        x.input(7, 5);
        x.input(6, 5);
        return x;
    }

    private static FrameBroker busyWithEight() {
        FrameBroker x = busy();
        x.open(2, 0, 1, 1, false, 3, 2);
        return x;
    }

    private static FrameBroker fortyWere() {
        FrameBroker x = Due.eightOfForty(5);
        x.advance(3);
        x.show();
        x.advance(1);
        return x;
    }

    private static FrameBroker eightOfFortyWere() {
        return Due.eightOfForty(8);
    }

    /** No page is left, and two windows would have their surfaces taken back for 3. */
    private static FrameBroker full() {
        FrameBroker x = Due.asleep(1, 2, 1);
        x.lay(1, false);
        x.advance(4);
        x.show();
        x.advance(1);
        return x;
    }

    private static Object opened(FrameBroker x, int[] a, boolean isClear) {
        return x.open(a[0], a[1], a[2], a[3], isClear, a[4], a[5]);
    }

    private static Object moved(FrameBroker x, int window, int column, int row) {
        x.move(window, column, row);
        return "moved";
    }

    private static void whatIsBusy() {
        Due.says("what a refused call could change");
        FrameBroker x = busy();
        Due.is("windows", x.windows(), 7);
        Due.is("free", x.free(), 8);
        Due.is("seen, without a surface", x.isSeen(2) && x.pagesOf(2) == 0, true);
        Due.is("asleep, with a surface", !x.isSeen(6) && x.pagesOf(6) == 1, true);
        Due.is("under way", x.deadline(0) > 0 && x.deadline(1) > 0 && x.deadline(8) > 0, true);
        Due.is("misses", x.misses(8), 1);
        Due.is("damage", x.damage() > 0, true);
        Due.is("windows beside 8", busyWithEight().windows(), 8);
        FrameBroker y = full();
        Due.is("asleep", y.isSeen(0) || y.isSeen(1) || y.isSeen(2), false);
        Due.is("none free", y.free(), 0);
    }

    private static void open() {
        Due.says("open: a call that throws IllegalArgumentException changes nothing");
        for (int[] a : OUT_OF_RANGE) {
            Due.isRefused("open", T8RefusedTest::busy, ARGUMENT, x -> opened(x, a, true));
        }
        Due.says("open: a call that throws IllegalStateException changes nothing");
        Due.isRefused("open of a ninth", T8RefusedTest::busyWithEight, STATE,
                x -> Due.box(x, 0, 0, 1, 1));
        Due.isRefused("open of the 41st", T8RefusedTest::fortyWere, STATE,
                x -> Due.box(x, 0, 0, 1, 1));
        Due.isRefused("open without pages", T8RefusedTest::full, STATE, x -> Due.ofPages(x, 5));
        Due.isRefused("open of a clear one without pages", T8RefusedTest::full, STATE,
                x -> x.open(0, 0, 8, 6, true, 1, 1));
        FrameBroker x = full();
        Due.is("a refused one takes no number", Due.answer(() -> Due.ofPages(x, 5)),
                "throws IllegalStateException");
        Due.is("the next number", Due.ofPages(x, 4), 5);
        Due.says("open: IllegalArgumentException is named first");
        for (int[] a : OUT_OF_RANGE) {
            Due.isThrown("open beside 8", ARGUMENT, () -> opened(busyWithEight(), a, false));
            Due.isThrown("open behind 40", ARGUMENT, () -> opened(fortyWere(), a, false));
            Due.isThrown("open beside 8 of 40", ARGUMENT,
                    () -> opened(eightOfFortyWere(), a, true));
            Due.isThrown("open without pages", ARGUMENT, () -> opened(full(), a, true));
        }
        int[] large = {0, 0, 8, 6, 101, 1};
        Due.isThrown("open of a large one without pages", ARGUMENT,
                () -> opened(full(), large, true));
    }

    private static void move() {
        Due.says("move: a call that throws IllegalArgumentException changes nothing");
        for (int[] c : new int[][] {{-1, 0}, {0, -1}, {8, 0}, {0, 6}, {MAX, 0}, {0, MIN}}) {
            Due.isRefused("move", T8RefusedTest::busy, ARGUMENT, x -> moved(x, 4, c[0], c[1]));
            Due.isRefused("move", T8RefusedTest::busy, ARGUMENT, x -> moved(x, 0, c[0], c[1]));
        }
        Due.says("move: a call that throws IndexOutOfBoundsException changes nothing");
        for (int window : new int[] {-1, 5, 7, 9, 40, MIN, MAX}) {
            Due.isRefused("move", T8RefusedTest::busy, INDEX, x -> moved(x, window, 0, 0));
        }
        Due.says("move: IndexOutOfBoundsException is named first");
        for (int window : new int[] {-1, 5, 7, 9, 40, MIN, MAX}) {
            for (int[] c : Due.noCells()) {
                Due.isThrown("move", INDEX, () -> moved(busy(), window, c[0], c[1]));
            }
        }
    }

    private static void ofAWindow(String what, Due.Question call) {
        Due.says(what + ": a call that throws IndexOutOfBoundsException changes nothing");
        for (int window : new int[] {-1, 5, 7, 9, 40, MIN, MAX}) {
            Due.isRefused(what + "(" + window + ")", T8RefusedTest::busy, INDEX,
                    x -> call.ask(x, window));
        }
    }

    private static void ofEachWindow() {
        ofAWindow("close", (x, window) -> x.close(window));
        ofAWindow("lay on top", (x, window) -> x.lay(window, true));
        ofAWindow("lay at the bottom", (x, window) -> x.lay(window, false));
        ofAWindow("placeOf", (x, window) -> x.placeOf(window));
        ofAWindow("isSeen", (x, window) -> x.isSeen(window));
        ofAWindow("pagesOf", (x, window) -> x.pagesOf(window));
        ofAWindow("picture", (x, window) -> x.picture(window));
        ofAWindow("pace", (x, window) -> x.pace(window));
        ofAWindow("misses", (x, window) -> x.misses(window));
        ofAWindow("deadline", (x, window) -> x.deadline(window));
    }

    private static void ofACell() {
        Due.says("input: a call that throws IndexOutOfBoundsException changes nothing");
        for (int[] c : Due.noCells()) {
            Due.isRefused("input", T8RefusedTest::busy, INDEX, x -> x.input(c[0], c[1]));
        }
        Due.says("at: a call that throws IndexOutOfBoundsException changes nothing");
        for (int[] c : Due.noCells()) {
            Due.isRefused("at", T8RefusedTest::busy, INDEX, x -> x.at(c[0], c[1]));
        }
    }

    private static void advance() {
        Due.says("advance: a call that throws IllegalArgumentException changes nothing");
        for (int ticks : Due.outside(1, 200)) {
            Due.isRefused("advance(" + ticks + ")", T8RefusedTest::busy, ARGUMENT,
                    x -> x.advance(ticks));
        }
        Due.says("advance: a call that throws IllegalStateException changes nothing");
        FrameBroker x = new FrameBroker();
        x.open(0, 0, 1, 1, false, 100, 20);
        Due.pass(x, 99950);
        Due.isThrown("advance(51)", STATE, () -> x.advance(51));
        Due.isThrown("advance(200)", STATE, () -> x.advance(200));
        Due.is("tick", x.tick(), 99950);
        Due.is("deadline", x.deadline(0), FrameBroker.NONE);
        Due.is("picture", x.picture(0), 1000);
        Due.is("advance(50)", x.advance(50), 100000);
        Due.says("advance: IllegalArgumentException is named first");
        Due.isThrown("advance(201)", ARGUMENT, () -> x.advance(201));
        Due.isThrown("advance of the most", ARGUMENT, () -> x.advance(MAX));
        Due.isThrown("advance(1)", STATE, () -> x.advance(1));
    }

    public static void main(String[] args) {
        whatIsBusy();
        open();
        move();
        ofEachWindow();
        ofACell();
        advance();
        Due.end();
    }
}
