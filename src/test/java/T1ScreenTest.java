/** Terms: the screen, its cells, rectangles, clear windows. */
public final class T1ScreenTest {
    private static final int NONE = FrameBroker.NONE;

    /** A case of a rectangle that is within the screen. */
    private interface Rectangle {
        void test(int column, int row, int width, int height);
    }

    private static void ofEachRectangle(Rectangle test) {
        for (int cell = 0; cell < 48; cell++) {
            for (int width = 1; cell % 8 + width <= 8; width++) {
                for (int height = 1; cell / 8 + height <= 6; height++) {
                    test.test(cell % 8, cell / 8, width, height);
                }
            }
        }
    }

    private static boolean isWithin(int cell, int column, int row, int width, int height) {
        return cell % 8 >= column && cell % 8 < column + width
                && cell / 8 >= row && cell / 8 < row + height;
    }

    private static void eightColumnsAndSixRows() {
        Due.says("The screen has 8 columns and 6 rows of cells");
        FrameBroker x = new FrameBroker();
        Due.box(x, 0, 0, 8, 6);
        for (int column = -3; column <= 11; column++) {
            for (int row = -3; row <= 9; row++) {
                int c = column;
                int r = row;
                boolean isCell = column >= 0 && column <= 7 && row >= 0 && row <= 5;
                Due.is("at(" + c + ", " + r + ")", Due.answer(() -> x.at(c, r)),
                        isCell ? 0 : "throws IndexOutOfBoundsException");
            }
        }
        Due.is("its 48 cells", x.show(), 48);
    }

    private static void itsRectangle() {
        Due.says("A window has a rectangle of cells within it; others cover all of them");
        ofEachRectangle((column, row, width, height) -> {
            FrameBroker x = new FrameBroker();
            Due.box(x, column, row, width, height);
            for (int cell = 0; cell < 48; cell++) {
                Due.is("at cell " + cell, x.at(cell % 8, cell / 8),
                        isWithin(cell, column, row, width, height) ? 0 : NONE);
            }
            Due.is("damage", x.damage(), width * height);
        });
    }

    private static void aClearOne() {
        Due.says("a clear one covers only the cells of its rectangle whose column and row, added,"
                + " are even");
        ofEachRectangle((column, row, width, height) -> {
            FrameBroker x = new FrameBroker();
            x.open(column, row, width, height, true, 1, 1);
            int covered = 0;
            for (int cell = 0; cell < 48; cell++) {
                boolean isCovered = isWithin(cell, column, row, width, height)
                        && (cell % 8 + cell / 8) % 2 == 0;
                covered += isCovered ? 1 : 0;
                Due.is("at cell " + cell, x.at(cell % 8, cell / 8), isCovered ? 0 : NONE);
            }
            Due.is("damage", x.damage(), covered);
            Due.is("isSeen", x.isSeen(0), covered > 0);
        });
    }

    /** The cells are even or odd by where they are on the screen, not in the window. */
    private static void aClearOneThatMoves() {
        Due.says("a clear one covers the even cells of where it is moved");
        FrameBroker x = new FrameBroker();
        x.open(0, 0, 2, 1, true, 1, 1);
        for (int cell = 0; cell < 48; cell++) {
            int column = Math.min(cell % 8, 6);
            x.move(0, column, cell / 8);
            boolean isFirstEven = (column + cell / 8) % 2 == 0;
            Due.is("its first cell", x.at(column, cell / 8), isFirstEven ? 0 : NONE);
            Due.is("its second cell", x.at(column + 1, cell / 8), isFirstEven ? NONE : 0);
        }
    }

    public static void main(String[] args) {
        eightColumnsAndSixRows();
        itsRectangle();
        aClearOne();
        aClearOneThatMoves();
        Due.end();
    }
}
