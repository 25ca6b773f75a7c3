/** Promise 15: isSeen. */
public final class P15IsSeenTest {
    public static void main(String[] args) {
        Due.isRefusedForNoWindow("isSeen", (x, window) -> x.isSeen(window));
        FrameBroker x = new FrameBroker();
        Due.box(x, 2, 2, 2, 1);
        Due.is("alone", x.isSeen(0), true);
        Due.box(x, 2, 2, 1, 1);
        Due.is("half hidden", x.isSeen(0), true);
        Due.box(x, 3, 2, 1, 1);
        Due.is("hidden by two", x.isSeen(0), false);
        x.move(2, 4, 2);
        Due.is("seen behind a move", x.isSeen(0), true);
        x.move(2, 3, 2);
        Due.is("hidden behind a move", x.isSeen(0), false);
        x.close(1);
        Due.is("seen behind a closing", x.isSeen(0), true);
        x.lay(0, true);
        Due.is("the other one is hidden now", x.isSeen(2), false);
        x.lay(0, false);
        Due.is("and seen again", x.isSeen(2), true);
        x.open(2, 2, 1, 1, true, 1, 1);
        Due.is("hidden by a clear one at an even cell", x.isSeen(0), false);
        x.close(2);
        x.open(3, 2, 1, 1, true, 1, 1);
        Due.is("not by one at an odd cell", x.isSeen(0), true);
        Due.is("which is not seen", x.isSeen(4), false);
        FrameBroker y = new FrameBroker();
        y.open(0, 0, 8, 6, true, 1, 1);
        y.open(0, 0, 8, 6, true, 1, 1);
        Due.is("a clear one below a clear one", y.isSeen(0), false);
        Due.is("one without a surface is seen", Due.seenWithoutSurface().isSeen(0), true);
        Due.end();
    }
}
