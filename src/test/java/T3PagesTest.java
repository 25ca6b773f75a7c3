/** Terms: the 24 pages, how they are lent and how they are lost. */
public final class T3PagesTest {
    private static final Class<?> STATE = IllegalStateException.class;
    private static final int NONE = FrameBroker.NONE;

    private static void pages(FrameBroker x, int free, int... ofWindows) {
        int lent = 0;
        for (int window = 0; window < ofWindows.length; window++) {
            Due.is("pages of " + window, x.pagesOf(window), ofWindows[window]);
            lent += ofWindows[window];
        }
        Due.is("free", x.free(), free);
        Due.is("all pages", lent + x.free(), 24);
    }

    private static void twentyFourPages() {
        Due.says("There are 24 pages");
        FrameBroker x = new FrameBroker();
        pages(x, 24);
        Due.box(x, 0, 0, 8, 6);
        pages(x, 12, 12);
        x.open(0, 0, 8, 6, true, 1, 1);
        pages(x, 0, 12, 12);
        Due.isThrown("open of a 25th page", STATE, () -> Due.box(x, 1, 0, 1, 1));
        x.close(1);
        x.open(0, 0, 7, 6, true, 1, 1);
        Due.is("a page is left", x.free(), 1);
        Due.is("open of the 24th page", Due.box(x, 1, 0, 1, 1), 3);
        Due.is("free", x.free(), 0);
    }

    private static void aFourthRoundedUp() {
        Due.says("A window needs as many as its rectangle has cells, divided by 4, rounded up");
        int[] ofCells = {0, 1, 1, 1, 1, 2, 2, 2, 2, 3, 3, 3, 3, 4, 4, 4, 4, 5, 5, 5, 5, 6, 6, 6, 6,
            7, 7, 7, 7, 8, 8, 8, 8, 9, 9, 9, 9, 10, 10, 10, 10, 11, 11, 11, 11, 12, 12, 12, 12};
        for (int width = 1; width <= 8; width++) {
            for (int height = 1; height <= 6; height++) {
                FrameBroker x = new FrameBroker();
                int needed = ofCells[width * height];
                Due.box(x, 8 - width, 6 - height, width, height);
                pages(x, 24 - needed, needed);
                x.open(0, 0, width, height, true, 1, 1);
                pages(x, 24 - 2 * needed, needed, needed);
                x.move(0, 0, 0);
                pages(x, 24 - 2 * needed, needed, needed);
            }
        }
    }

    private static void allOrNone() {
        Due.says("it has a surface if it holds them");
        FrameBroker x = Due.twoStarve();
        x.advance(9);
        Due.is("pages of one without", x.pagesOf(1), 0);
        Due.is("nothing is drawn on none", x.picture(1), 0);
        x.close(6);
        Due.is("pages of one with", x.pagesOf(1), 1);
        x.advance(3);
        Due.is("a picture is drawn on it", x.picture(1), 1);
    }

    private static void ifThereAreEnoughFreeOnes() {
        Due.says("if there are enough free ones, it takes them");
        for (int needed = 1; needed <= 3; needed++) {
            FrameBroker x = Due.asleep(1);
            pages(x, 3, 1, 10, 10);
            Due.is("isSeen", x.isSeen(0), false);
            Due.is("open", Due.ofPages(x, needed), 3);
            pages(x, 3 - needed, 1, 10, 10, needed);
        }
        for (int needed = 1; needed <= 4; needed++) {
            FrameBroker y = Due.asleep();
            Due.is("open with none asleep", Due.ofPages(y, needed), 2);
            pages(y, 4 - needed, 10, 10, needed);
        }
    }

    private static void thoseThatAreNotSeenLoseTheirs() {
        Due.says("otherwise, if there would be enough with those of all other windows that are not"
                + " seen, these lose their surfaces, and it takes them");
        FrameBroker x = Due.asleep(1);
        Due.is("open of all there are", Due.ofPages(x, 4), 3);
        pages(x, 0, 0, 10, 10, 4);
        FrameBroker y = Due.asleep(4);
        Due.is("open with none free", Due.ofPages(y, 4), 3);
        pages(y, 0, 0, 10, 10, 4);
        FrameBroker z = Due.asleep(1, 1, 1, 1);
        Due.is("open with all four", Due.ofPages(z, 4), 6);
        pages(z, 0, 0, 0, 0, 0, 10, 10, 4);
    }

    private static void theLowestOneFirst() {
        Due.says("one after the other, the lowest one in the stack first, until there are enough");
        for (int needed = 1; needed <= 4; needed++) {
            FrameBroker x = Due.asleep(1, 1, 1, 1);
            Due.ofPages(x, needed);
            pages(x, 0, 0, needed < 2 ? 1 : 0, needed < 3 ? 1 : 0, needed < 4 ? 1 : 0, 10, 10,
                    needed);
        }
        FrameBroker x = Due.asleep(1, 1, 1, 1);
        x.lay(2, false);
        x.lay(3, false);
        // From the bottom: 3, 2, 0, 1.
        Due.ofPages(x, 1);
        pages(x, 0, 1, 1, 1, 0, 10, 10, 1);
        Due.ofPages(x, 2);
        pages(x, 0, 0, 1, 0, 0, 10, 10, 1, 2);
        FrameBroker y = Due.asleep(2, 1, 1);
        Due.ofPages(y, 1);
        pages(y, 1, 0, 1, 1, 10, 10, 1);
        FrameBroker z = Due.asleep(1, 2, 1);
        Due.ofPages(z, 2);
        pages(z, 1, 0, 0, 1, 10, 10, 2);
        FrameBroker u = Due.asleep(1, 2);
        // A page is free, and with the lowest one's there are enough.
        Due.ofPages(u, 2);
        pages(u, 0, 0, 2, 10, 10, 2);
    }

    private static void thoseThatAreSeenKeepTheirs() {
        Due.says("with those of windows that are not seen: those that are seen keep theirs");
        FrameBroker x = Due.asleep(1);
        // Window 1, which is seen in row 0, is laid below the one that is asleep.
        x.lay(1, false);
        x.advance(2);
        Due.ofPages(x, 4);
        pages(x, 0, 0, 10, 10, 4);
        Due.is("the pictures on them stay", x.picture(1) + x.picture(2), 2);
        FrameBroker y = Due.asleep();
        Due.is("both are seen", y.isSeen(0) && y.isSeen(1), true);
        Due.isThrown("open of a page too many", STATE, () -> Due.ofPages(y, 5));
        pages(y, 4, 10, 10);
    }

    private static void otherwiseNothingIsLent() {
        Due.says("otherwise nothing is lent");
        int[][] asleep = {{}, {1}, {2, 1}, {4}, {1, 1, 1, 1}, {3}, {1, 2}};
        for (int[] pages : asleep) {
            FrameBroker x = Due.asleep(pages);
            String before = Due.state(x);
            Due.isThrown("open of a page too many", STATE, () -> Due.ofPages(x, 5));
            Due.is("behind it", Due.state(x), before);
        }
        // The seen window 0 of 2 pages finds one page only, of window 1, which then keeps it.
        FrameBroker y = new FrameBroker();
        Due.box(y, 0, 5, 5, 1);
        Due.box(y, 7, 0, 1, 1);
        Due.box(y, 0, 0, 8, 5);
        Due.box(y, 0, 1, 8, 4);
        Due.box(y, 0, 4, 6, 2);
        pages(y, 0, 2, 1, 10, 8, 3);
        Due.box(y, 0, 3, 4, 1);
        pages(y, 1, 0, 1, 10, 8, 3, 1);
        Due.box(y, 4, 3, 4, 1);
        pages(y, 0, 0, 1, 10, 8, 3, 1, 1);
        y.move(4, 0, 3);
        Due.is("it is seen", y.isSeen(0), true);
        Due.is("the other one is not", y.isSeen(1), false);
        pages(y, 0, 0, 1, 10, 8, 3, 1, 1);
    }

    private static void anOpenedOneMustBeLent() {
        Due.says("A window that is opened must be lent its pages (when it is on top already)");
        // It hides window 1, which is seen before: 4 pages are free, and 10 more are to be had.
        FrameBroker x = Due.asleep();
        Due.is("isSeen", x.isSeen(1), true);
        Due.is("open of more than there are", Due.box(x, 0, 1, 8, 5), 2);
        pages(x, 4, 10, 0, 10);
        // It hides all: the lowest two have the 12 pages that it needs, and 2 more.
        FrameBroker y = Due.asleep(4);
        Due.is("open over all", Due.box(y, 0, 0, 8, 6), 3);
        pages(y, 2, 0, 0, 10, 12);
    }

    private static void anOpenedOneThatIsNotSeen() {
        Due.says("A window that is opened must be lent its pages, also if it is not seen");
        FrameBroker x = Due.asleep(4);
        Due.is("open at an odd cell", x.open(1, 2, 1, 1, true, 1, 1), 3);
        Due.is("isSeen", x.isSeen(3), false);
        pages(x, 3, 0, 10, 10, 1);
        FrameBroker y = Due.twoStarve();
        Due.isThrown("open at an odd cell without a page", STATE,
                () -> y.open(1, 2, 1, 1, true, 1, 1));
    }

    private static void behindEach() {
        FrameBroker x = Due.twoStarve();
        pages(x, 0, 0, 0, 10, 8, 4, 1, 1);
        for (int window = 0; window < 7; window++) {
            Due.is("all are seen", x.isSeen(window), true);
        }
        Due.says("Behind each opening, the windows are gone through");
        Due.box(x, 0, 0, 8, 1);
        pages(x, 6, 1, 1, 0, 8, 4, 1, 1, 2);
        Due.says("Behind each closing, the windows are gone through");
        FrameBroker y = Due.twoStarve();
        y.close(3);
        Due.is("free", y.free(), 6);
        Due.is("both are lent a page", y.pagesOf(0) + y.pagesOf(1), 2);
        Due.says("Behind each moving, the windows are gone through");
        FrameBroker z = Due.twoStarve();
        z.move(3, 0, 0);
        pages(z, 8, 1, 1, 0, 8, 4, 1, 1);
        Due.says("Behind each raising, the windows are gone through");
        FrameBroker u = Due.twoStarve();
        u.lay(2, true);
        pages(u, 6, 1, 1, 10, 0, 4, 1, 1);
        Due.says("Behind each lowering, the windows are gone through");
        FrameBroker v = Due.twoStarve();
        v.lay(4, false);
        pages(v, 2, 1, 1, 10, 8, 0, 1, 1);
    }

    private static void fromTheTopDown() {
        Due.says("gone through from the top of the stack down");
        FrameBroker x = Due.twoStarve();
        x.close(5);
        Due.is("free", x.free(), 0);
        Due.is("the upper one is lent the page", x.pagesOf(1), 1);
        Due.is("the lower one is not", x.pagesOf(0), 0);
        FrameBroker y = Due.twoStarve();
        y.lay(1, false);
        y.close(5);
        Due.is("the upper one is lent the page", y.pagesOf(0), 1);
        Due.is("the lower one is not", y.pagesOf(1), 0);
        y.close(6);
        Due.is("the lower one is lent the next one", y.pagesOf(1), 1);
    }

    private static void seenAndWithoutASurface() {
        Due.says("those that are seen and have no surface are lent pages");
        FrameBroker x = Due.asleep(4);
        Due.ofPages(x, 4);
        pages(x, 0, 0, 10, 10, 4);
        x.close(3);
        Due.is("one that is not seen is lent none", x.pagesOf(0), 0);
        Due.is("free", x.free(), 4);
        x.lay(2, false);
        Due.is("window 1 is seen, with its surface", x.pagesOf(1), 10);
        x.lay(0, true);
        Due.is("it is lent them when it is seen", x.pagesOf(0), 4);
        Due.is("free behind it", x.free(), 0);
        x.lay(0, true);
        Due.is("they are not lent once more", x.free(), 0);
    }

    private static void asFarAsPossible() {
        Due.says("are lent pages, as far as possible");
        FrameBroker x = new FrameBroker();
        Due.box(x, 5, 5, 1, 1);
        Due.box(x, 0, 5, 5, 1);
        Due.box(x, 0, 0, 8, 5);
        Due.box(x, 0, 1, 8, 4);
        Due.box(x, 0, 4, 6, 2);
        Due.box(x, 0, 3, 4, 1);
        Due.box(x, 4, 3, 4, 1);
        Due.box(x, 0, 2, 4, 1);
        x.move(4, 0, 3);
        Due.is("both are seen", x.isSeen(0) && x.isSeen(1), true);
        pages(x, 0, 0, 0, 10, 8, 3, 1, 1, 1);
        x.close(5);
        Due.is("a page is too little for the upper one", x.pagesOf(1), 0);
        Due.is("it is enough for the lower one", x.pagesOf(0), 1);
        x.close(6);
        Due.is("it stays free", x.free(), 1);
        Due.is("pages of the upper one", x.pagesOf(1), 0);
        x.close(7);
        Due.is("two are enough", x.pagesOf(1), 2);
        Due.is("free", x.free(), 0);
    }

    private static void withoutASurface() {
        Due.says("A window without a surface has the picture 0, and no frame under way");
        FrameBroker x = new FrameBroker();
        x.open(0, 0, 8, 6, false, 4, 3);
        x.advance(6);
        Due.is("picture with a surface", x.picture(0), 1);
        Due.is("deadline with a surface", x.deadline(0), 8);
        Due.box(x, 0, 0, 8, 6);
        Due.is("picture while it is asleep", x.picture(0), 1);
        Due.box(x, 0, 0, 8, 6);
        Due.is("pages", x.pagesOf(0), 0);
        Due.is("picture", x.picture(0), 0);
        Due.is("deadline", x.deadline(0), NONE);
        x.advance(50);
        Due.is("picture later", x.picture(0), 0);
        Due.is("deadline later", x.deadline(0), NONE);
        Due.is("misses later", x.misses(0), 0);
    }

    /** A window with a frame under way, and at the tick 3 one of 12 pages and another above it. */
    private static FrameBroker lostAtThree(int cost) {
        FrameBroker x = new FrameBroker();
        x.open(0, 0, 8, 6, false, 50, cost);
        x.advance(3);
        Due.box(x, 0, 0, 8, 6);
        Due.box(x, 0, 0, 8, 6);
        x.advance(5);
        x.lay(0, true);
        Due.is("it has a surface again", x.pagesOf(0), 12);
        Due.is("no frame before a tick passes", x.deadline(0), NONE);
        x.advance(1);
        return x;
    }

    private static void whenItLostIt() {
        Due.says("if one was under way when it lost its surface, the next one is due at that tick");
        Due.is("a frame begins, due since 3", lostAtThree(10).deadline(0), 58);
        FrameBroker x = new FrameBroker();
        x.open(0, 0, 8, 6, false, 50, 10);
        x.advance(3);
        Due.box(x, 0, 0, 8, 6);
        Due.box(x, 0, 0, 8, 6);
        x.lay(0, true);
        x.advance(1);
        Due.is("a frame begins at that tick itself", x.deadline(0), 53);
        // One that input begins at 4, while the next one is due at 50 only.
        FrameBroker early = new FrameBroker();
        early.open(0, 0, 8, 6, false, 50, 3);
        early.advance(4);
        early.input(0, 0);
        Due.box(early, 0, 0, 8, 6);
        Due.box(early, 0, 0, 8, 6);
        early.advance(2);
        early.lay(0, true);
        early.advance(1);
        Due.is("a frame begins at 6, due since 4", early.deadline(0), 56);
        // Without one under way, the next one is due where it was: at 50.
        FrameBroker y = lostAtThree(1);
        Due.is("none begins before 50", y.deadline(0), NONE);
        y.advance(41);
        Due.is("picture at 50", y.picture(0), 0);
        y.advance(1);
        Due.is("picture at 51", y.picture(0), 1);
    }

    public static void main(String[] args) {
        twentyFourPages();
        aFourthRoundedUp();
        allOrNone();
        ifThereAreEnoughFreeOnes();
        thoseThatAreNotSeenLoseTheirs();
        theLowestOneFirst();
        thoseThatAreSeenKeepTheirs();
        otherwiseNothingIsLent();
        anOpenedOneMustBeLent();
        anOpenedOneThatIsNotSeen();
        behindEach();
        fromTheTopDown();
        seenAndWithoutASurface();
        asFarAsPossible();
        withoutASurface();
        whenItLostIt();
        Due.end();
    }
}
