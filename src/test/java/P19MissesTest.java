/** Promise 19: misses. */
public final class P19MissesTest {
    public static void main(String[] args) {
        Due.isRefusedForNoWindow("misses", (x, window) -> x.misses(window));
        FrameBroker x = new FrameBroker();
        x.open(0, 0, 1, 1, false, 2, 2);
        x.open(1, 0, 1, 1, false, 2, 2);
        Due.is("at first", x.misses(0), 0);
        x.advance(2);
        // The first one is finished at its deadline, the second one has had no slice.
        Due.is("in time at the deadline", x.misses(0), 0);
        Due.is("missed", x.misses(1), 1);
        Due.is("its later deadline", x.deadline(1), 4);
        x.advance(2);
        // Both have the deadline 4: the first one is drawn again, and the second one misses.
        Due.is("in time again", x.misses(0), 0);
        Due.is("missed again", x.misses(1), 2);
        Due.is("later by twice the period", x.deadline(1), 8);
        Due.is("pace", x.pace(1), 4);

        FrameBroker y = new FrameBroker();
        y.open(0, 0, 1, 1, false, 1, 20);
        y.advance(1);
        Due.is("a miss", y.misses(0), 1);
        Due.box(y, 0, 0, 1, 1);
        y.advance(10);
        Due.is("one that is asleep misses nothing", y.misses(0), 1);
        y.close(1);
        y.advance(1);
        Due.is("deadline by its pace", y.deadline(0), 13);
        y.advance(1);
        Due.is("it goes on counting", y.misses(0), 2);

        FrameBroker z = new FrameBroker();
        z.open(0, 0, 8, 6, false, 1, 20);
        z.advance(2);
        Due.box(z, 0, 0, 8, 6);
        Due.box(z, 0, 0, 8, 6);
        Due.is("misses stay when the surface is lost", z.misses(0), 2);
        Due.is("the pace stays too", z.pace(0), 4);

        FrameBroker two = new FrameBroker();
        two.open(0, 0, 1, 1, false, 1, 5);
        two.open(1, 0, 1, 1, false, 1, 5);
        two.advance(1);
        Due.is("two at one tick", two.misses(0) + two.misses(1), 2);
        Due.end();
    }
}
