/** Promise 13, its edges: each cell and those around the screen. */
public final class E13AtTest {
    private static final int[] NEAR = {Integer.MIN_VALUE, Integer.MIN_VALUE + 1, -8, -6, -2, -1, 0,
        1, 2, 3, 4, 5, 6, 7, 8, 9, 48, Integer.MAX_VALUE - 1, Integer.MAX_VALUE};

    private static void eachCell() {
        Due.says("at: column: 0 to 7; row: 0 to 5");
        for (int cell = 0; cell < 48; cell++) {
            FrameBroker x = new FrameBroker();
            Due.box(x, cell % 8, cell / 8, 1, 1);
            for (int other = 0; other < 48; other++) {
                Due.is("at cell " + other, x.at(other % 8, other / 8),
                        other == cell ? 0 : FrameBroker.NONE);
            }
        }
    }

    private static void noCell() {
        Due.says("at Throws IndexOutOfBoundsException if there is no such cell");
        FrameBroker x = new FrameBroker();
        Due.box(x, 0, 0, 8, 6);
        for (int column : NEAR) {
            for (int row : NEAR) {
                boolean isCell = column >= 0 && column <= 7 && row >= 0 && row <= 5;
                Due.is("at(" + column + ", " + row + ")", Due.answer(() -> x.at(column, row)),
                        isCell ? 0 : "throws IndexOutOfBoundsException");
            }
        }
    }

    public static void main(String[] args) {
        eachCell();
        noCell();
        Due.says("at Returns the window; NONE if it shows none");
        FrameBroker x = Due.eightOfForty(8);
        for (int column = 0; column < 8; column++) {
            Due.is("the last windows of all", x.at(column, 0), 32 + column);
            Due.is("none below them", x.at(column, 1), FrameBroker.NONE);
        }
        Due.is("one without a surface", Due.twoStarve().at(7, 5), 0);
        Due.end();
    }
}
