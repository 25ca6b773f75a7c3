/** Promise 4: move. */
public final class P04MoveTest {
    private static final Class<?> INDEX = IndexOutOfBoundsException.class;
    private static final Class<?> ARGUMENT = IllegalArgumentException.class;

    private static int moved(FrameBroker x, int window, int column, int row) {
        x.move(window, column, row);
        return 0;
    }

    private static FrameBroker one() {
        FrameBroker x = new FrameBroker();
        x.open(2, 3, 3, 2, false, 4, 3);
        x.advance(2);
        return x;
    }

    private static FrameBroker closed() {
        FrameBroker x = one();
        x.close(0);
        return x;
    }

    private static FrameBroker whole() {
        FrameBroker x = new FrameBroker();
        Due.box(x, 0, 0, 8, 6);
        return x;
    }

    private static void ranges() {
        FrameBroker x = one();
        int[][] good = {{5, 4}, {0, 0}, {5, 0}, {0, 4}, {2, 3}, {2, 3}};
        for (int[] g : good) {
            x.move(0, g[0], g[1]);
            Due.is("at the first cell", x.at(g[0], g[1]), 0);
            Due.is("at the last cell", x.at(g[0] + 2, g[1] + 1), 0);
        }
        Due.is("at a cell that it left", x.at(0, 4), FrameBroker.NONE);
        int min = Integer.MIN_VALUE;
        int max = Integer.MAX_VALUE;
        int[][] bad = {{-1, 0}, {6, 0}, {8, 0}, {0, -1}, {0, 5}, {0, 6}, {min, 0}, {max, 0},
            {0, min}, {0, max}, {6, 5}, {max - 1, max - 1}, {-3, 3}, {3, -2}};
        for (int[] b : bad) {
            Due.isRefused("move off the screen", P04MoveTest::one, ARGUMENT,
                    y -> moved(y, 0, b[0], b[1]));
            for (int none : Due.noWindows(1)) {
                Due.isRefused("move of no window, off the screen", P04MoveTest::one, INDEX,
                        y -> moved(y, none, b[0], b[1]));
            }
            Due.isRefused("move of a closed one, off the screen", P04MoveTest::closed, INDEX,
                    y -> moved(y, 0, b[0], b[1]));
        }
        for (int none : Due.noWindows(1)) {
            Due.isRefused("move of no window", P04MoveTest::one, INDEX,
                    y -> moved(y, none, 0, 0));
        }
        Due.isRefused("move of a closed one", P04MoveTest::closed, INDEX,
                y -> moved(y, 0, 0, 0));
        Due.isRefused("move in an empty stack", FrameBroker::new, INDEX,
                y -> moved(y, 0, 0, 0));
    }

    private static void theWholeScreen() {
        FrameBroker x = whole();
        x.move(0, 0, 0);
        Due.is("it stays", x.at(7, 5), 0);
        Due.isRefused("move to the right", P04MoveTest::whole, ARGUMENT, y -> moved(y, 0, 1, 0));
        Due.isRefused("move down", P04MoveTest::whole, ARGUMENT, y -> moved(y, 0, 0, 1));
    }

    private static void whatStays() {
        FrameBroker x = new FrameBroker();
        x.open(0, 0, 2, 2, false, 6, 4);
        x.open(4, 4, 2, 2, false, 100, 1);
        x.advance(1);
        x.move(0, 5, 4);
        Due.is("its place", x.placeOf(0), 0);
        Due.is("the upper one is shown", x.at(5, 5), 1);
        Due.is("it is shown beside it", x.at(6, 5), 0);
        Due.is("its frame goes on", x.deadline(0), 6);
        Due.is("its pages", x.pagesOf(0), 1);
        x.advance(3);
        Due.is("its frame is finished", x.picture(0), 1);
    }

    private static void aClearOne() {
        FrameBroker x = new FrameBroker();
        x.open(0, 0, 1, 1, true, 1, 1);
        Due.is("it covers an even cell", x.at(0, 0), 0);
        x.move(0, 1, 0);
        Due.is("it covers no odd cell", x.at(1, 0), FrameBroker.NONE);
        Due.is("it is not seen", x.isSeen(0), false);
        x.move(0, 1, 1);
        Due.is("it covers an even cell again", x.at(1, 1), 0);
    }

    private static void pagesAreLentBehindIt() {
        FrameBroker x = new FrameBroker();
        Due.box(x, 0, 0, 8, 1);
        Due.box(x, 0, 0, 8, 5);
        Due.box(x, 0, 1, 8, 5);
        Due.box(x, 0, 0, 2, 4);
        // 2 + 10 + 10 + 2 pages are lent: the next one takes those of the lowest one.
        Due.is("free", x.free(), 0);
        Due.box(x, 0, 0, 8, 1);
        Due.is("the lowest one has no surface", x.pagesOf(0), 0);
        x.move(4, 0, 5);
        Due.is("it is not lent pages while it is not seen", x.pagesOf(0), 0);
        x.move(1, 0, 1);
        Due.is("it is seen", x.isSeen(0), true);
        Due.is("the moved one is not", x.isSeen(1), false);
        Due.is("the one that is seen is lent pages", x.pagesOf(0), 2);
        Due.is("they are the moved one's", x.pagesOf(1), 0);
        Due.is("the rest of them is free", x.free(), 8);
    }

    public static void main(String[] args) {
        ranges();
        theWholeScreen();
        whatStays();
        aClearOne();
        pagesAreLentBehindIt();
        Due.end();
    }
}
