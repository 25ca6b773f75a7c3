/** Promise 20, its edges: the next tick, and the farthest that there is. */
public final class E20DeadlineTest {
    private static void theNearest() {
        Due.says("deadline Returns the tick; NONE if none is under way");
        FrameBroker x = new FrameBroker();
        x.open(0, 0, 1, 1, false, 1, 1);
        Due.is("none before a tick", x.deadline(0), FrameBroker.NONE);
        x.input(0, 0);
        Due.is("the next tick", x.deadline(0), 1);
        x.advance(1);
        Due.is("none behind it", x.deadline(0), FrameBroker.NONE);
    }

    /** Window 0 has all slices, as it has the lowest number, so that 1 misses until the end. */
    private static void theFarthest() {
        Due.says("deadline Returns the tick, also behind the last one");
        FrameBroker x = new FrameBroker();
        x.open(0, 0, 1, 1, false, 20, 20);
        x.open(1, 0, 1, 1, false, 100, 20);
        Due.pass(x, 99999);
        Due.is("before the end", x.deadline(1), 100000);
        x.advance(1);
        Due.is("at the end", x.deadline(1), 100800);
        // It missed at 100, 200 and 400, and then each 800 ticks.
        Due.is("misses", x.misses(1), 128);
        Due.is("pictures", x.picture(0) - x.picture(1), 5000);
        x.input(1, 0);
        Due.is("hurried at the end", x.deadline(1), 100050);
        x.input(0, 0);
        Due.is("begun at the end", x.deadline(0), 100010);
    }

    public static void main(String[] args) {
        Due.says("deadline: window: a window");
        Due.isAnsweredForEachWindow("deadline", (x, window) -> x.deadline(window));
        Due.says("deadline Throws IndexOutOfBoundsException if there is no such window");
        Due.isRefusedForNoWindow("deadline", (x, window) -> x.deadline(window));
        theNearest();
        theFarthest();
        Due.end();
    }
}
