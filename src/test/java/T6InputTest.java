/** Terms: input. */
public final class T6InputTest {
    private static final int NONE = FrameBroker.NONE;

    private static FrameBroker one(int period, int cost) {
        FrameBroker x = new FrameBroker();
        x.open(0, 0, 1, 1, false, period, cost);
        return x;
    }

    /** Window 2 is clear, over window 0; window 1 lies beside them; window 3 is hidden. */
    private static FrameBroker four() {
        FrameBroker x = new FrameBroker();
        x.open(4, 4, 1, 1, false, 40, 9);
        x.open(2, 0, 2, 1, false, 30, 9);
        x.open(0, 0, 2, 1, false, 20, 9);
        x.open(0, 0, 2, 1, true, 50, 9);
        Due.box(x, 4, 4, 1, 1);
        x.advance(1);
        return x;
    }

    private static void deadlines(FrameBroker x, int... ofWindows) {
        for (int window = 0; window < ofWindows.length; window++) {
            Due.is("deadline of " + window, x.deadline(window), ofWindows[window]);
        }
    }

    private static void toTheWindowThatIsShown() {
        Due.says("Input at a cell goes to the window that the cell shows");
        FrameBroker x = four();
        deadlines(x, NONE, 30, 20, 50);
        Due.is("input at the clear one", x.input(0, 0), 3);
        deadlines(x, NONE, 30, 20, 26);
        Due.is("input through the clear one", x.input(1, 0), 2);
        deadlines(x, NONE, 30, 11, 26);
        Due.is("input beside them", x.input(3, 0), 1);
        deadlines(x, NONE, 16, 11, 26);
        Due.is("input over the hidden one", x.input(4, 4), 4);
        deadlines(x, NONE, 16, 11, 26, 51);
        Due.is("input where none is shown", x.input(5, 5), NONE);
        Due.is("input below them", x.input(0, 1), NONE);
        deadlines(x, NONE, 16, 11, 26, 51);
    }

    private static void ifItHasASurface() {
        Due.says("Input goes to the window, if it has a surface");
        FrameBroker x = Due.twoStarve();
        x.advance(2);
        for (int column = 6; column <= 7; column++) {
            int window = 7 - column;
            Due.is("isSeen", x.isSeen(window), true);
            Due.is("pages", x.pagesOf(window), 0);
            Due.is("input", x.input(column, 5), window);
            Due.is("none begins", x.deadline(window), NONE);
        }
        x.advance(20);
        Due.is("none later", x.picture(0) + x.picture(1), 0);
        Due.is("nor a miss", x.misses(0) + x.misses(1), 0);
        x.close(6);
        Due.is("input with a surface", x.input(6, 5), 1);
        Due.is("one begins", x.deadline(1), 27);
        Due.is("input of the other one", x.input(7, 5), 0);
        Due.is("none begins", x.deadline(0), NONE);
    }

    private static void ifThatIsEarlier() {
        Due.says("a frame of it that is under way gets the deadline of now and half the period,"
                + " if that is earlier than its own");
        for (int tick = 1; tick < 20; tick++) {
            FrameBroker x = one(20, 20);
            x.advance(tick);
            Due.is("deadline", x.deadline(0), 20);
            Due.is("input", x.input(0, 0), 0);
            Due.is("deadline by input at " + tick, x.deadline(0), Math.min(20, tick + 10));
            x.input(0, 0);
            Due.is("by input again", x.deadline(0), Math.min(20, tick + 10));
            Due.is("no tick passes", x.tick(), tick);
        }
        FrameBroker x = one(20, 20);
        for (int tick = 1; tick < 11; tick++) {
            x.advance(1);
            x.input(0, 0);
            Due.is("it stays with the first input", x.deadline(0), 11);
        }
        x.advance(1);
        Due.is("a miss at it", x.misses(0), 1);
        Due.is("the period is added to it", x.deadline(0), 31);
        Due.says("it keeps its slices");
        FrameBroker y = one(20, 4);
        y.advance(3);
        y.input(0, 0);
        y.advance(1);
        Due.is("picture", y.picture(0), 1);
    }

    private static void halfRoundedUp() {
        Due.says("half the period, rounded up");
        for (int period = 1; period <= 100; period++) {
            int half = period % 2 == 0 ? period / 2 : period / 2 + 1;
            FrameBroker x = one(period, 20);
            x.input(0, 0);
            Due.is("none under way, the period " + period, x.deadline(0), half);
            FrameBroker y = one(period, 20);
            y.advance(7);
            FrameBroker z = one(period, 20);
            z.advance(7);
            int own = z.deadline(0);
            y.input(0, 0);
            Due.is("one under way, the period " + period, y.deadline(0),
                    Math.min(own, 7 + half));
        }
    }

    private static void notByThePace() {
        Due.says("half the period, whatever the pace");
        FrameBroker x = Due.paceEight();
        x.advance(1);
        Due.is("pace", x.pace(1), 8);
        x.input(1, 0);
        Due.is("none under way", x.deadline(1), 10);
        FrameBroker y = one(10, 20);
        y.advance(10);
        Due.is("pace", y.pace(0), 2);
        Due.is("deadline", y.deadline(0), 20);
        y.advance(1);
        y.input(0, 0);
        Due.is("one under way", y.deadline(0), 16);
    }

    private static void ifNoneIsUnderWay() {
        Due.says("if none is under way, one begins with that deadline");
        FrameBroker x = one(10, 3);
        x.advance(3);
        Due.is("none under way", x.deadline(0), NONE);
        Due.is("input", x.input(0, 0), 0);
        Due.is("deadline", x.deadline(0), 8);
        x.advance(2);
        Due.is("it has had no slices before", x.picture(0), 1);
        x.advance(1);
        Due.is("picture", x.picture(0), 2);
        x.advance(2);
        Due.is("the next one is not due before 8", x.deadline(0), NONE);
        x.advance(1);
        Due.is("the next one", x.deadline(0), 18);
        Due.says("if none is under way, one begins, also before the first tick");
        FrameBroker y = one(10, 1);
        y.input(0, 0);
        Due.is("deadline", y.deadline(0), 5);
        y.advance(1);
        Due.is("picture", y.picture(0), 1);
        y.advance(4);
        Due.is("picture at 5", y.picture(0), 1);
        y.advance(1);
        Due.is("picture at 6", y.picture(0), 2);
        Due.says("if none is under way, one begins, also before the next one is due");
        FrameBroker z = one(100, 1);
        for (int tick = 1; tick <= 30; tick++) {
            z.input(0, 0);
            z.advance(1);
            Due.is("picture", z.picture(0), tick);
        }
    }

    private static void oneThatIsGone() {
        Due.says("a frame that input began is gone as others are");
        FrameBroker x = one(20, 3);
        x.advance(4);
        x.input(0, 0);
        Due.is("deadline", x.deadline(0), 14);
        Due.box(x, 0, 0, 1, 1);
        x.advance(1);
        Due.is("gone", x.deadline(0), NONE);
        x.close(1);
        x.advance(1);
        // Due at 4, not at 20.
        Due.is("the next one", x.deadline(0), 25);
    }

    public static void main(String[] args) {
        toTheWindowThatIsShown();
        ifItHasASurface();
        ifThatIsEarlier();
        halfRoundedUp();
        notByThePace();
        ifNoneIsUnderWay();
        oneThatIsGone();
        Due.end();
    }
}
