/** Promise 7: input. */
public final class P07InputTest {
    private static final int NONE = FrameBroker.NONE;

    private static FrameBroker three() {
        FrameBroker x = new FrameBroker();
        x.open(0, 0, 4, 4, false, 7, 3);
        x.open(2, 2, 4, 4, false, 9, 3);
        x.open(0, 0, 2, 2, true, 11, 3);
        x.advance(2);
        return x;
    }

    private static void cells() {
        FrameBroker x = three();
        Due.is("input at a clear one", x.input(1, 1), 2);
        Due.is("input through a clear one", x.input(1, 0), 0);
        Due.is("input at the upper one", x.input(3, 3), 1);
        Due.is("input at the last cell", x.input(7, 5), NONE);
        Due.is("input at a corner", x.input(0, 5), NONE);
        Due.is("input at another corner", x.input(7, 0), NONE);
        for (int[] c : Due.noCells()) {
            Due.isRefused("input off the screen", P07InputTest::three,
                    IndexOutOfBoundsException.class, y -> y.input(c[0], c[1]));
        }
        Due.is("input of an empty screen", new FrameBroker().input(0, 0), NONE);
    }

    private static void aFrameUnderWay() {
        FrameBroker x = new FrameBroker();
        x.open(0, 0, 1, 1, false, 5, 4);
        x.advance(1);
        Due.is("deadline", x.deadline(0), 5);
        x.input(1, 1);
        Due.is("deadline behind input elsewhere", x.deadline(0), 5);
        x.input(0, 0);
        Due.is("now and half the period, rounded up", x.deadline(0), 4);
        x.advance(1);
        x.input(0, 0);
        Due.is("it is never put off", x.deadline(0), 4);
        x.advance(2);
        Due.is("picture", x.picture(0), 1);
        Due.is("it is in time", x.misses(0), 0);
        Due.is("the next one is due at its deadline", x.deadline(0), NONE);
        x.advance(1);
        Due.is("the next deadline", x.deadline(0), 9);
    }

    private static void noFrameUnderWay() {
        FrameBroker x = new FrameBroker();
        x.open(0, 0, 1, 1, false, 10, 2);
        x.advance(3);
        Due.is("no frame", x.deadline(0), NONE);
        x.input(0, 0);
        Due.is("one begins", x.deadline(0), 8);
        Due.is("no tick has passed", x.tick(), 3);
        Due.is("no slice is given", x.picture(0), 1);
        x.advance(1);
        Due.is("one slice", x.picture(0), 1);
        x.advance(1);
        Due.is("two slices", x.picture(0), 2);
        x.advance(3);
        Due.is("the next is due at its deadline", x.deadline(0), NONE);
        x.advance(1);
        Due.is("not as the frame before told", x.deadline(0), 18);
    }

    /** The half of 1 is rounded up to 1, the half of 2 is 1, the half of 100 is 50. */
    private static void halves() {
        int[][] periods = {{1, 1}, {2, 1}, {3, 2}, {4, 2}, {99, 50}, {100, 50}};
        for (int[] p : periods) {
            FrameBroker x = new FrameBroker();
            x.open(0, 0, 1, 1, false, p[0], 5);
            x.input(0, 0);
            Due.is("deadline of the period " + p[0], x.deadline(0), p[1]);
        }
    }

    /** The half period is not made longer by the pace. */
    private static void atAGreaterPace() {
        FrameBroker x = new FrameBroker();
        x.open(0, 0, 1, 1, false, 4, 6);
        x.advance(4);
        Due.is("pace", x.pace(0), 2);
        Due.is("deadline", x.deadline(0), 8);
        x.input(0, 0);
        Due.is("hurried", x.deadline(0), 6);
        x.advance(2);
        Due.is("finished at its deadline", x.picture(0), 1);
        Due.is("misses", x.misses(0), 1);
        x.advance(1);
        Due.is("the next one by the pace", x.deadline(0), 14);
    }

    private static void aHurriedMiss() {
        FrameBroker x = new FrameBroker();
        x.open(0, 0, 1, 1, false, 4, 3);
        x.input(0, 0);
        Due.is("deadline", x.deadline(0), 2);
        x.advance(2);
        Due.is("misses", x.misses(0), 1);
        Due.is("later by the whole period", x.deadline(0), 6);
        Due.is("pace", x.pace(0), 2);
        x.advance(1);
        Due.is("picture", x.picture(0), 1);
    }

    private static void itComesFirst() {
        FrameBroker x = new FrameBroker();
        x.open(0, 0, 1, 1, false, 10, 2);
        x.open(1, 0, 1, 1, false, 12, 2);
        x.advance(1);
        x.input(1, 0);
        Due.is("deadline", x.deadline(1), 7);
        x.advance(2);
        Due.is("the hurried one is finished", x.picture(1), 1);
        Due.is("the other one is not", x.picture(0), 0);
        x.advance(1);
        Due.is("it goes on where it was", x.picture(0), 1);
    }

    private static void withoutASurface() {
        FrameBroker x = Due.seenWithoutSurface();
        Due.is("it is seen", x.at(7, 5), 0);
        Due.is("input", x.input(7, 5), 0);
        Due.is("no frame begins", x.deadline(0), NONE);
        x.advance(3);
        Due.is("none later", x.deadline(0) + x.picture(0), -1);
    }

    private static void aFrameThatInputBeganIsGone() {
        FrameBroker x = new FrameBroker();
        x.open(0, 0, 1, 1, false, 20, 3);
        x.advance(4);
        x.input(0, 0);
        Due.box(x, 0, 0, 1, 1);
        x.advance(2);
        Due.is("it is gone", x.deadline(0), NONE);
        x.close(1);
        x.advance(1);
        Due.is("the next one was due when it went", x.deadline(0), 26);
    }

    public static void main(String[] args) {
        cells();
        aFrameUnderWay();
        noFrameUnderWay();
        halves();
        atAGreaterPace();
        aHurriedMiss();
        itComesFirst();
        withoutASurface();
        aFrameThatInputBeganIsGone();
        Due.end();
    }
}
