/** Promise 11: free, and how pages are lent and taken back. */
public final class P11FreeTest {
    private static void pages(FrameBroker x, int free, int... ofWindows) {
        Due.is("free", x.free(), free);
        for (int w = 0; w < ofWindows.length; w++) {
            Due.is("pages of " + w, x.pagesOf(w), ofWindows[w]);
        }
    }

    private static void rounding() {
        int[][] sizes = {{1, 1, 1}, {2, 2, 1}, {5, 1, 2}, {4, 2, 2}, {3, 3, 3}, {3, 4, 3},
            {7, 1, 2}, {1, 6, 2}, {8, 5, 10}, {7, 6, 11}, {8, 6, 12}};
        for (int[] s : sizes) {
            for (boolean isClear : new boolean[] {false, true}) {
                FrameBroker x = new FrameBroker();
                x.open(0, 0, s[0], s[1], isClear, 1, 1);
                pages(x, 24 - s[2], s[2]);
                x.close(0);
                pages(x, 24);
            }
        }
    }

    private static FrameBroker threeAsleep() {
        FrameBroker x = new FrameBroker();
        Due.box(x, 0, 0, 4, 2);
        Due.box(x, 0, 0, 4, 2);
        Due.box(x, 0, 0, 4, 2);
        Due.box(x, 0, 0, 8, 6);
        pages(x, 6, 2, 2, 2, 12);
        return x;
    }

    private static void theLowestFirstUntilThereAreEnough() {
        FrameBroker x = threeAsleep();
        Due.box(x, 0, 0, 8, 3);
        pages(x, 0, 2, 2, 2, 12, 6);
        FrameBroker y = threeAsleep();
        Due.box(y, 0, 0, 7, 4);
        pages(y, 1, 0, 2, 2, 12, 7);
        FrameBroker z = threeAsleep();
        Due.box(z, 0, 0, 6, 6);
        pages(z, 1, 0, 0, 2, 12, 9);
        FrameBroker u = threeAsleep();
        u.lay(2, false);
        u.lay(1, true);
        u.lay(3, true);
        // From the bottom: 2, 0, 1, 3.
        Due.box(u, 0, 0, 8, 4);
        pages(u, 0, 2, 2, 0, 12, 8);
        FrameBroker v = threeAsleep();
        v.lay(1, false);
        Due.box(v, 0, 0, 6, 6);
        pages(v, 1, 0, 0, 2, 12, 9);
        FrameBroker w = threeAsleep();
        w.open(0, 0, 8, 6, true, 1, 1);
        pages(w, 0, 0, 0, 0, 12, 12);
    }

    /** Windows that are seen keep their pages, wherever they lie. */
    private static void fromThoseThatAreNotSeenAlone() {
        FrameBroker x = new FrameBroker();
        Due.box(x, 0, 0, 8, 6);
        Due.box(x, 0, 0, 4, 2);
        Due.box(x, 0, 0, 4, 2);
        Due.box(x, 4, 0, 4, 2);
        Due.is("the lowest one is seen", x.isSeen(0), true);
        Due.is("the next one is not", x.isSeen(1), false);
        Due.box(x, 0, 2, 8, 4);
        // Now 0 is hidden by 2, 3 and 4 together.
        Due.is("the lowest one is not seen", x.isSeen(0), false);
        pages(x, 10, 0, 2, 2, 2, 8);
        Due.box(x, 0, 0, 8, 5);
        pages(x, 0, 0, 2, 2, 2, 8, 10);
        x.close(5);
        pages(x, 10, 0, 2, 2, 2, 8);
        x.close(4);
        pages(x, 6, 12, 2, 2, 2);
    }

    /** The topmost one of two that are seen again is lent its pages first. */
    private static void fromTheTopDown(boolean isFirstAbove) {
        FrameBroker x = new FrameBroker();
        Due.box(x, 0, 0, 4, 2);
        Due.box(x, 0, 2, 4, 2);
        if (isFirstAbove) {
            x.lay(0, true);
        }
        Due.box(x, 0, 0, 4, 4);
        Due.box(x, 0, 4, 8, 2);
        x.open(0, 0, 8, 6, true, 100, 1);
        pages(x, 0, 2, 2, 4, 4, 12);
        Due.box(x, 7, 5, 1, 1);
        Due.box(x, 6, 5, 1, 1);
        Due.box(x, 5, 5, 1, 1);
        pages(x, 1, 0, 0, 4, 4, 12, 1, 1, 1);
        x.close(7);
        Due.is("free before the two are seen", x.free(), 2);
        x.move(2, 4, 0);
        Due.is("both are seen", x.isSeen(0) && x.isSeen(1), true);
        int first = isFirstAbove ? 2 : 0;
        pages(x, 0, first, 2 - first, 4, 4, 12, 1, 1);
        x.close(6);
        pages(x, 1, first, 2 - first);
        x.close(5);
        pages(x, 0, 2, 2);
    }

    /** One that is too large gets nothing, and a smaller one below it gets its pages. */
    private static void asFarAsPossible() {
        FrameBroker x = new FrameBroker();
        Due.box(x, 0, 0, 2, 2);
        Due.box(x, 2, 0, 6, 2);
        Due.box(x, 0, 0, 8, 2);
        Due.box(x, 0, 2, 8, 4);
        Due.box(x, 0, 2, 8, 2);
        // 1 + 3 + 4 + 8 + 4 pages: 4 are free, 8 with those of the windows 0 and 1.
        Due.box(x, 0, 4, 8, 2);
        pages(x, 0, 1, 3, 4, 8, 4, 4);
        x.open(0, 0, 8, 4, true, 100, 1);
        // 3 was asleep below 4 and 5: 1 + 3 are not enough for 8, so 3 loses its pages too.
        pages(x, 4, 0, 0, 4, 0, 4, 4, 8);
        x.open(0, 4, 4, 2, true, 100, 1);
        pages(x, 2, 0, 0, 4, 0, 4, 4, 8, 2);
        x.close(7);
        x.open(0, 4, 6, 2, true, 100, 1);
        Due.is("free", x.free(), 1);
        x.move(2, 0, 1);
        Due.is("the small one and the large one are seen", x.isSeen(0) && x.isSeen(1), true);
        pages(x, 0, 1, 0, 4, 0, 4, 4, 8);
    }

    private static void whatIsLostWithASurface() {
        FrameBroker x = new FrameBroker();
        x.open(0, 0, 8, 6, false, 20, 3);
        x.advance(3);
        Due.is("picture", x.picture(0), 1);
        x.input(0, 0);
        x.advance(1);
        Due.box(x, 0, 0, 8, 6);
        Due.is("the frame is there until a tick passes", x.deadline(0), 13);
        Due.box(x, 0, 0, 8, 6);
        Due.is("the frame is lost with the surface", x.deadline(0), FrameBroker.NONE);
        Due.is("the picture too", x.picture(0), 0);
        x.advance(3);
        x.lay(0, true);
        Due.is("the new surface has no picture", x.picture(0), 0);
        Due.is("nor a frame", x.deadline(0), FrameBroker.NONE);
        x.advance(1);
        Due.is("the next one was due when the surface was lost", x.deadline(0), 27);
    }

    /** Without a frame under way, a lost surface does not make the next one due earlier. */
    private static void whenTheNextOneIsDue() {
        FrameBroker x = new FrameBroker();
        x.open(0, 0, 8, 6, false, 20, 1);
        x.advance(1);
        Due.box(x, 0, 0, 8, 6);
        Due.box(x, 0, 0, 8, 6);
        x.lay(0, true);
        Due.is("pages", x.pagesOf(0), 12);
        x.advance(19);
        Due.is("no picture yet", x.picture(0), 0);
        x.advance(1);
        Due.is("a picture where it was due", x.picture(0), 1);
    }

    public static void main(String[] args) {
        Due.is("at first", new FrameBroker().free(), 24);
        rounding();
        theLowestFirstUntilThereAreEnough();
        fromThoseThatAreNotSeenAlone();
        fromTheTopDown(false);
        fromTheTopDown(true);
        asFarAsPossible();
        whatIsLostWithASurface();
        whenTheNextOneIsDue();
        Due.end();
    }
}
