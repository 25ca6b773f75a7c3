/** Terms: 8 windows at a time and 40 ever, their numbers, the stack, and what is seen. */
public final class T2StackTest {
    private static final Class<?> STATE = IllegalStateException.class;
    private static final int NONE = FrameBroker.NONE;

    private static void eightAtATime() {
        Due.says("There can be 8 windows at a time");
        FrameBroker x = new FrameBroker();
        for (int number = 0; number < 8; number++) {
            Due.is("open", Due.box(x, number, 0, 1, 1), number);
        }
        Due.isThrown("open of a ninth", STATE, () -> Due.box(x, 0, 1, 1, 1));
        for (int number = 0; number < 20; number++) {
            Due.is("close", x.close(number), 7);
            Due.is("open of an eighth", Due.box(x, 0, 1, 1, 1), number + 8);
            Due.isThrown("open of a ninth", STATE, () -> Due.box(x, 0, 1, 1, 1));
        }
        Due.is("windows", x.windows(), 8);
    }

    private static void fromZeroOn() {
        Due.says("their numbers go from 0 on as they are opened");
        FrameBroker x = new FrameBroker();
        for (int number = 0; number < 8; number++) {
            Due.isThrown("open out of range", IllegalArgumentException.class,
                    () -> Due.box(x, 8, 0, 1, 1));
            Due.is("open", Due.box(x, 0, 0, 1, 1), number);
            x.lay(number, number % 2 == 0);
        }
        for (int number = 8; number < 20; number++) {
            Due.isThrown("open of a ninth", STATE, () -> Due.box(x, 0, 0, 1, 1));
            x.close(number < 12 ? 15 - number : number - 4);
            Due.is("open behind a closing", Due.box(x, 0, 0, 1, 1), number);
        }
        FrameBroker y = Due.asleep();
        Due.isThrown("open without pages", STATE, () -> Due.ofPages(y, 5));
        Due.is("a refused one takes no number", Due.ofPages(y, 4), 2);
    }

    private static void atMostForty() {
        Due.says("at most 40 ever");
        for (int left = 0; left <= 7; left++) {
            FrameBroker x = new FrameBroker();
            for (int number = 0; number < 40; number++) {
                Due.is("open of one in 40", Due.box(x, number % 8, 0, 1, 1), number);
                Due.isThrown("open out of range", IllegalArgumentException.class,
                        () -> Due.box(x, 0, 6, 1, 1));
                if (number < 40 - left) {
                    x.close(number);
                }
            }
            Due.is("windows", x.windows(), left);
            for (int again = 0; again < 2; again++) {
                Due.isThrown("open of the 41st", STATE, () -> Due.box(x, 0, 0, 1, 1));
                Due.isThrown("open of a clear 41st", STATE, () -> x.open(0, 0, 1, 1, true, 1, 1));
            }
            if (left > 0) {
                x.close(39);
                Due.isThrown("open of the 41st", STATE, () -> Due.box(x, 0, 0, 1, 1));
            }
        }
    }

    private static void aNewOneIsOnTop() {
        Due.says("They lie in a stack; a new one is on top");
        FrameBroker x = new FrameBroker();
        for (int number = 0; number < 8; number++) {
            Due.is("open", Due.box(x, 0, 0, 1, 1), number);
            Due.is("its place", x.placeOf(number), number);
            Due.is("it is shown", x.at(0, 0), number);
            x.lay(0, true);
            Due.is("another is laid on top of it", x.at(0, 0), 0);
        }
    }

    /** Three windows that overlap, in each order. */
    private static void theTopmostThatCovers() {
        Due.says("A cell shows the topmost window that covers it");
        int[][] orders = {{0, 1, 2}, {0, 2, 1}, {1, 0, 2}, {1, 2, 0}, {2, 0, 1}, {2, 1, 0}};
        for (int[] order : orders) {
            FrameBroker x = new FrameBroker();
            Due.box(x, 0, 0, 5, 4);
            x.open(2, 1, 5, 4, true, 1, 1);
            Due.box(x, 3, 2, 5, 4);
            for (int number : order) {
                x.lay(number, true);
            }
            for (int cell = 0; cell < 48; cell++) {
                int column = cell % 8;
                int row = cell / 8;
                boolean[] covers = {column < 5 && row < 4,
                    column >= 2 && column < 7 && row >= 1 && row < 5 && (column + row) % 2 == 0,
                    column >= 3 && row >= 2};
                int shown = NONE;
                for (int number : order) {
                    shown = covers[number] ? number : shown;
                }
                Due.is("at cell " + cell, x.at(column, row), shown);
            }
        }
    }

    private static void seenInOneCell() {
        Due.says("A window is seen if some cell shows it");
        // A window of 4 by 6 cells, and others over all of its cells but one.
        for (int cell = 0; cell < 48; cell++) {
            int column = cell % 8;
            int row = cell / 8;
            int left = column < 4 ? 0 : 4;
            FrameBroker x = new FrameBroker();
            Due.box(x, left, 0, 4, 6);
            if (row > 0) {
                Due.box(x, left, 0, 4, row);
            }
            if (row < 5) {
                Due.box(x, left, row + 1, 4, 5 - row);
            }
            if (column > left) {
                Due.box(x, left, row, column - left, 1);
            }
            if (column < left + 3) {
                Due.box(x, column + 1, row, left + 3 - column, 1);
            }
            Due.is("shown by the one cell " + cell, x.isSeen(0), true);
            Due.is("at the cell", x.at(column, row), 0);
            int last = Due.box(x, column, row, 1, 1);
            Due.is("shown by none", x.isSeen(0), false);
            x.close(last);
            Due.is("shown by the cell again", x.isSeen(0), true);
            last = x.open(column, row, 1, 1, true, 1, 1);
            Due.is("below a clear one at an odd cell", x.isSeen(0), (column + row) % 2 == 1);
            Due.is("the clear one", x.isSeen(last), (column + row) % 2 == 0);
        }
    }

    public static void main(String[] args) {
        eightAtATime();
        fromZeroOn();
        atMostForty();
        aNewOneIsOnTop();
        theTopmostThatCovers();
        seenInOneCell();
        Due.end();
    }
}
