/** Promise 15, its edges. */
public final class E15IsSeenTest {
    public static void main(String[] args) {
        Due.says("isSeen: window: a window");
        Due.isAnsweredForEachWindow("isSeen", (x, window) -> x.isSeen(window));
        Due.says("isSeen Throws IndexOutOfBoundsException if there is no such window");
        Due.isRefusedForNoWindow("isSeen", (x, window) -> x.isSeen(window));
        Due.says("isSeen Returns whether it is");
        FrameBroker x = new FrameBroker();
        for (int number = 0; number < 8; number++) {
            Due.box(x, 0, 0, 2, 1);
            for (int other = 0; other <= number; other++) {
                Due.is("the topmost alone", x.isSeen(other), other == number);
            }
        }
        x.move(0, 1, 0);
        Due.is("by a cell beside the others", x.isSeen(0), true);
        x.move(0, 0, 0);
        Due.is("by none", x.isSeen(0), false);
        for (int number = 7; number > 0; number--) {
            x.close(number);
            Due.is("the topmost that is left", x.isSeen(number - 1), true);
        }
        Due.says("isSeen of a window that a refused opening would have hidden");
        FrameBroker y = Due.asleep();
        Due.isThrown("open", IllegalStateException.class, () -> Due.ofPages(y, 5));
        Due.isThrown("open", IllegalStateException.class, () -> Due.ofPages(y, 8));
        Due.is("it is still seen", y.isSeen(0) && y.isSeen(1), true);
        Due.is("at a cell of it", y.at(0, 2), 1);
        Due.end();
    }
}
