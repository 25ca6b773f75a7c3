/** Promise 12: damage. */
public final class P12DamageTest {
    private static void againstNothing() {
        FrameBroker x = new FrameBroker();
        Due.is("damage of nothing", x.damage(), 0);
        Due.box(x, 0, 0, 2, 2);
        Due.is("damage before a picture", x.damage(), 4);
        x.advance(1);
        Due.is("damage with a picture", x.damage(), 4);
        Due.is("asking changes nothing", x.damage(), 4);
        x.open(1, 1, 3, 3, true, 100, 1);
        // Of nine cells, the five even ones are covered, one of them over the other window.
        Due.is("damage of both", x.damage(), 8);
        x.close(0);
        Due.is("damage of the clear one", x.damage(), 5);
        x.close(1);
        Due.is("damage of none", x.damage(), 0);
    }

    private static void behindAShowing() {
        FrameBroker x = new FrameBroker();
        x.open(0, 0, 2, 1, false, 3, 1);
        x.advance(1);
        x.show();
        Due.is("damage", x.damage(), 0);
        x.move(0, 1, 0);
        Due.is("a cell shows the same picture of the same window", x.damage(), 2);
        x.move(0, 0, 0);
        Due.is("all as it was", x.damage(), 0);
        x.advance(3);
        Due.is("picture", x.picture(0), 2);
        Due.is("another picture", x.damage(), 2);
        x.show();
        Due.box(x, 0, 0, 1, 1);
        Due.is("another window", x.damage(), 1);
        x.lay(1, false);
        Due.is("lowered", x.damage(), 0);
        x.lay(1, true);
        x.show();
        x.close(1);
        Due.is("the window below", x.damage(), 1);
        Due.is("the same place, another number", Due.box(x, 0, 0, 1, 1), 2);
        Due.is("damage by numbers", x.damage(), 1);
    }

    private static void picturesByTheirNumbers() {
        FrameBroker x = new FrameBroker();
        x.open(0, 0, 8, 6, false, 1, 1);
        x.advance(1);
        Due.is("show", x.show(), 48);
        Due.box(x, 0, 0, 8, 6);
        Due.box(x, 0, 0, 8, 6);
        Due.is("the surface is lost", x.pagesOf(0), 0);
        x.lay(0, true);
        Due.is("the picture is another", x.damage(), 48);
        x.advance(1);
        Due.is("the picture", x.picture(0), 1);
        Due.is("its number is the same", x.damage(), 0);
        x.advance(1);
        Due.is("its number is another", x.damage(), 48);
    }

    private static void theWholeScreen() {
        FrameBroker x = new FrameBroker();
        for (int cell = 0; cell < 6; cell++) {
            Due.box(x, cell, cell, 1, 1);
            Due.is("damage", x.damage(), cell + 1);
        }
        Due.box(x, 0, 0, 8, 6);
        Due.is("damage of all", x.damage(), 48);
        x.show();
        x.close(6);
        Due.is("damage of all again", x.damage(), 48);
    }

    private static void hiddenPictures() {
        FrameBroker x = new FrameBroker();
        x.open(0, 0, 4, 1, false, 1, 1);
        Due.box(x, 1, 0, 3, 1);
        x.advance(2);
        x.show();
        x.advance(1);
        Due.is("only where the window is shown", x.damage(), 1);
    }

    public static void main(String[] args) {
        againstNothing();
        behindAShowing();
        picturesByTheirNumbers();
        theWholeScreen();
        hiddenPictures();
        Due.end();
    }
}
