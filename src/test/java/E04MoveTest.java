/** Promise 4, its edges: each position of each size, and the exceptions in their order. */
public final class E04MoveTest {
    private static final int MIN = Integer.MIN_VALUE;
    private static final int MAX = Integer.MAX_VALUE;
    private static final int[] COLUMNS = {MIN, MIN + 1, -8, -2, -1, 0, 1, 2, 3, 4, 5, 6, 7, 8, 9,
        16, MAX - 8, MAX - 1, MAX};
    private static final int[] ROWS = {MIN, MIN + 1, -6, -2, -1, 0, 1, 2, 3, 4, 5, 6, 7, 12,
        MAX - 6, MAX - 1, MAX};

    private static Object moved(FrameBroker x, int window, int column, int row) {
        x.move(window, column, row);
        return "moved";
    }

    /** Where a window of this size is, told by its first and its last cell. */
    private static boolean isAt(FrameBroker x, int column, int row, int width, int height) {
        return x.at(column, row) == 0 && x.at(column + width - 1, row + height - 1) == 0
                && x.damage() == width * height;
    }

    private static void sizes() {
        for (int width = 1; width <= 8; width++) {
            for (int height = 1; height <= 6; height++) {
                Due.says("move: column: so that its rectangle is within the screen");
                positions(width, height, COLUMNS, new int[] {0, 6 - height});
                Due.says("move: row: so that its rectangle is within the screen");
                positions(width, height, new int[] {0, 8 - width}, ROWS);
            }
        }
    }

    private static void positions(int width, int height, int[] columns, int[] rows) {
        FrameBroker x = new FrameBroker();
        Due.box(x, 0, 0, width, height);
        int atColumn = 0;
        int atRow = 0;
        for (int column : columns) {
            for (int row : rows) {
                boolean isGood = column >= 0 && column <= 8 - width && row >= 0
                        && row <= 6 - height;
                Due.is("move(" + column + ", " + row + ") of " + width + " by " + height,
                        Due.answer(() -> moved(x, 0, column, row)),
                        isGood ? "moved" : "throws IllegalArgumentException");
                atColumn = isGood ? column : atColumn;
                atRow = isGood ? row : atRow;
                Due.is("it is where it is", isAt(x, atColumn, atRow, width, height), true);
                x.lay(0, true);
                Due.is("it is there later", isAt(x, atColumn, atRow, width, height), true);
            }
        }
    }

    private static void outOfRange() {
        Due.says("move Throws IllegalArgumentException if column or row is out of range");
        for (int column : COLUMNS) {
            for (int row : ROWS) {
                FrameBroker x = new FrameBroker();
                Due.box(x, 1, 1, 3, 2);
                boolean isGood = column >= 0 && column <= 5 && row >= 0 && row <= 4;
                Due.is("move(" + column + ", " + row + ")",
                        Due.answer(() -> moved(x, 0, column, row)),
                        isGood ? "moved" : "throws IllegalArgumentException");
            }
        }
    }

    public static void main(String[] args) {
        Due.says("move: window: a window");
        Due.isAnsweredForEachWindow("move", (x, window) -> moved(x, window, 7, 5));
        Due.says("move Throws IndexOutOfBoundsException if there is no such window");
        for (int none : Due.noWindows(6)) {
            Due.isRefused("move of " + none, () -> Due.asleep(1, 1, 1, 1),
                    IndexOutOfBoundsException.class, x -> moved(x, none, 0, 0));
            Due.isRefused("move of " + none + " off the screen", () -> Due.asleep(1, 1, 1, 1),
                    IndexOutOfBoundsException.class, x -> moved(x, none, -1, 6));
        }
        sizes();
        outOfRange();
        Due.end();
    }
}
