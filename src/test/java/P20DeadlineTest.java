/** Promise 20: deadline. */
public final class P20DeadlineTest {
    public static void main(String[] args) {
        Due.isRefusedForNoWindow("deadline", (x, window) -> x.deadline(window));
        for (int period : new int[] {1, 2, 3, 50, 99, 100}) {
            FrameBroker x = new FrameBroker();
            x.advance(11);
            x.open(0, 0, 1, 1, false, period, 20);
            Due.is("before a tick", x.deadline(0), FrameBroker.NONE);
            x.advance(1);
            Due.is("deadline of the period " + period, x.deadline(0),
                    period == 1 ? 13 : 11 + period);
        }
        FrameBroker y = new FrameBroker();
        y.open(0, 0, 1, 1, false, 5, 1);
        y.advance(1);
        Due.is("finished at once", y.deadline(0), FrameBroker.NONE);
        y.input(0, 0);
        Due.is("begun by input", y.deadline(0), 4);
        y.advance(1);
        Due.is("finished", y.deadline(0), FrameBroker.NONE);
        y.advance(3);
        Due.is("the one at 4 is finished", y.picture(0), 3);
        y.advance(4);
        Due.is("none at 9", y.picture(0), 3);
        y.advance(1);
        Due.is("the next at 9", y.picture(0), 4);

        FrameBroker z = new FrameBroker();
        z.open(0, 0, 1, 1, false, 3, 4);
        z.advance(2);
        Due.is("under way", z.deadline(0), 3);
        z.advance(1);
        Due.is("missed", z.deadline(0), 6);
        z.advance(1);
        Due.is("finished", z.deadline(0), FrameBroker.NONE);
        z.advance(2);
        Due.is("not yet due", z.deadline(0), FrameBroker.NONE);
        z.advance(1);
        Due.is("by its pace", z.deadline(0), 12);
        Due.end();
    }
}
