/** Terms: damage, and that no cell shows an old picture. */
public final class T7DamageTest {
    private static void nothingAtFirst() {
        Due.says("(at first, nothing in all of them)");
        FrameBroker x = new FrameBroker();
        Due.is("damage", x.damage(), 0);
        x.advance(5);
        Due.is("damage of ticks alone", x.damage(), 0);
        Due.is("show", x.show(), 0);
        for (int cell = 0; cell < 48; cell++) {
            FrameBroker y = new FrameBroker();
            Due.box(y, cell % 8, cell / 8, 1, 1);
            Due.is("damage of a window without a picture", y.damage(), 1);
            y.close(0);
            Due.is("damage when it is closed", y.damage(), 0);
        }
        Due.box(x, 0, 0, 8, 6);
        Due.is("damage of all cells", x.damage(), 48);
    }

    private static void anotherWindow() {
        Due.says("Damage is how many cells show another window");
        FrameBroker x = new FrameBroker();
        Due.box(x, 0, 0, 4, 2);
        Due.box(x, 2, 1, 4, 2);
        Due.is("show", x.show(), 14);
        x.lay(0, true);
        Due.is("damage of a raising", x.damage(), 2);
        x.lay(0, false);
        Due.is("damage of raising and lowering", x.damage(), 0);
        x.move(1, 3, 1);
        // Left: the cells of the column 2, of which the upper one shows window 0; new: two.
        Due.is("damage of a move", x.damage(), 4);
        Due.is("show", x.show(), 4);
        x.close(1);
        Due.is("damage of a closing", x.damage(), 8);
        Due.box(x, 3, 1, 4, 2);
        Due.is("another number at the same cells", x.damage(), 8);
        x.open(0, 0, 1, 1, true, 1, 1);
        Due.is("a clear one over a cell", x.damage(), 9);
        x.open(1, 0, 1, 1, true, 1, 1);
        Due.is("a clear one that covers none", x.damage(), 9);
    }

    private static void whereNoneIsShown() {
        Due.says("Damage is how many cells show another window, or none where one was");
        FrameBroker x = new FrameBroker();
        Due.box(x, 0, 0, 8, 6);
        x.show();
        x.close(0);
        Due.is("damage", x.damage(), 48);
        Due.is("show", x.show(), 48);
        Due.is("damage behind it", x.damage(), 0);
        Due.box(x, 7, 5, 1, 1);
        Due.is("damage where none was", x.damage(), 1);
    }

    private static void anotherPicture() {
        Due.says("Damage is how many cells show another picture of it");
        FrameBroker x = new FrameBroker();
        x.open(0, 0, 3, 3, false, 5, 1);
        x.open(2, 2, 2, 2, false, 50, 1);
        x.show();
        x.advance(1);
        Due.is("the first picture, in 8 cells", x.damage(), 8);
        x.advance(1);
        Due.is("the other one's too", x.damage(), 12);
        x.show();
        x.advance(3);
        Due.is("none is finished", x.damage(), 0);
        x.advance(1);
        Due.is("the second picture", x.damage(), 8);
        x.advance(5);
        Due.is("the third picture", x.damage(), 8);
        Due.box(x, 0, 0, 3, 3);
        Due.is("another window over it, and over a cell of the other", x.damage(), 9);
    }

    private static void theLastTime() {
        Due.says("than when the screen was shown the last time");
        FrameBroker x = new FrameBroker();
        x.open(0, 0, 2, 2, false, 1, 1);
        for (int tick = 1; tick <= 20; tick++) {
            x.advance(1);
            Due.is("damage", x.damage(), 4);
            Due.is("damage does not show", x.damage(), 4);
            Due.is("show", x.show(), 4);
            Due.is("damage behind a showing", x.damage(), 0);
            Due.is("show again", x.show(), 0);
        }
        x.advance(1);
        x.move(0, 6, 4);
        Due.is("damage", x.damage(), 8);
        x.move(0, 0, 0);
        Due.is("damage of the picture alone", x.damage(), 4);
    }

    private static void byTheirNumbers() {
        Due.says("windows are compared by their numbers");
        FrameBroker x = new FrameBroker();
        Due.box(x, 0, 0, 4, 4);
        x.show();
        x.close(0);
        Due.is("the same rectangle, another number", Due.box(x, 0, 0, 4, 4), 1);
        Due.is("damage", x.damage(), 16);
        Due.says("pictures are compared by their numbers");
        FrameBroker y = new FrameBroker();
        y.open(0, 0, 8, 6, false, 10, 1);
        y.advance(1);
        y.show();
        Due.box(y, 0, 0, 8, 6);
        Due.box(y, 0, 0, 8, 6);
        Due.is("it has lost its picture", y.picture(0), 0);
        y.lay(0, true);
        Due.is("the picture 0 is another one", y.damage(), 48);
        y.advance(10);
        Due.is("the picture 1 is drawn anew", y.picture(0), 1);
        Due.is("its number is the same", y.damage(), 0);
        y.advance(10);
        Due.is("the picture 2 is another one", y.damage(), 48);
    }

    private static void noOldPictures() {
        Due.says("No cell shows a picture older than the last finished frame of its window");
        FrameBroker x = new FrameBroker();
        x.open(0, 0, 8, 6, false, 4, 3);
        x.show();
        for (int frame = 1; frame <= 20; frame++) {
            x.advance(2);
            Due.is("damage before it is finished", x.show(), 0);
            x.advance(1);
            Due.is("picture", x.picture(0), frame);
            Due.is("damage of all its cells", x.show(), 48);
            x.advance(1);
        }
        // A picture that was drawn, and hidden before it was shown, is shown when it is seen.
        FrameBroker y = new FrameBroker();
        y.open(0, 0, 2, 2, false, 4, 1);
        y.show();
        y.advance(1);
        Due.box(y, 0, 0, 2, 2);
        Due.is("hidden", y.show(), 4);
        y.lay(0, true);
        Due.is("shown with its picture", y.show(), 4);
        y.advance(3);
        Due.is("no other picture", y.show(), 0);
        y.advance(1);
        Due.is("the next one", y.show(), 4);
    }

    public static void main(String[] args) {
        nothingAtFirst();
        anotherWindow();
        whereNoneIsShown();
        anotherPicture();
        theLastTime();
        byTheirNumbers();
        noOldPictures();
        Due.end();
    }
}
