/** Promise 7, its edges: each cell and those around the screen. */
public final class E07InputTest {
    private static final int[] NEAR = {Integer.MIN_VALUE, Integer.MIN_VALUE + 1, -8, -6, -2, -1, 0,
        1, 2, 3, 4, 5, 6, 7, 8, 9, 48, Integer.MAX_VALUE - 1, Integer.MAX_VALUE};

    private static FrameBroker two() {
        FrameBroker x = new FrameBroker();
        x.open(0, 0, 8, 6, true, 10, 5);
        x.open(7, 5, 1, 1, false, 10, 5);
        return x;
    }

    private static int due(int column, int row) {
        if (column == 7 && row == 5) {
            return 1;
        }
        return (column + row) % 2 == 0 ? 0 : FrameBroker.NONE;
    }

    public static void main(String[] args) {
        FrameBroker x = two();
        for (int column : NEAR) {
            for (int row : NEAR) {
                boolean isCell = column >= 0 && column <= 7 && row >= 0 && row <= 5;
                Due.says(isCell ? "input: column: 0 to 7; row: 0 to 5"
                        : "input Throws IndexOutOfBoundsException if there is no such cell");
                Due.is("input(" + column + ", " + row + ")",
                        Due.answer(() -> x.input(column, row)),
                        isCell ? due(column, row) : "throws IndexOutOfBoundsException");
            }
        }
        Due.says("input Returns the window that the cell shows; NONE if it shows none");
        FrameBroker none = new FrameBroker();
        FrameBroker one = two();
        for (int cell = 0; cell < 48; cell++) {
            Due.is("input at none", none.input(cell % 8, cell / 8), FrameBroker.NONE);
            Due.is("input", one.input(cell % 8, cell / 8), due(cell % 8, cell / 8));
        }
        Due.says("input Throws IndexOutOfBoundsException, and no frame begins or is hurried");
        for (int column : Due.outside(0, 7)) {
            Due.isRefused("input at column " + column, E07InputTest::two,
                    IndexOutOfBoundsException.class, y -> y.input(column, 0));
        }
        for (int row : Due.outside(0, 5)) {
            Due.isRefused("input at row " + row, E07InputTest::two,
                    IndexOutOfBoundsException.class, y -> y.input(0, row));
        }
        Due.end();
    }
}
