/** Promise 6: advance, and what happens when a tick passes. */
public final class P06AdvanceTest {
    private static final Class<?> ARGUMENT = IllegalArgumentException.class;
    private static final int NONE = FrameBroker.NONE;

    private static FrameBroker at(int tick) {
        FrameBroker x = new FrameBroker();
        x.open(0, 0, 1, 1, false, 100, 1);
        Due.pass(x, tick);
        return x;
    }

    private static void ranges() {
        FrameBroker x = at(0);
        int[] bad = {0, -1, -200, 201, 100000, 100001, Integer.MIN_VALUE, Integer.MAX_VALUE};
        for (int b : bad) {
            Due.isRefused("advance(" + b + ")", () -> at(30), ARGUMENT, y -> y.advance(b));
        }
        Due.is("advance(1)", x.advance(1), 1);
        Due.is("advance(200)", x.advance(200), 201);
        Due.is("advance(199)", x.advance(199), 400);
        Due.is("picture", x.picture(0), 4);
    }

    /** Near the last tick few calls are left, so little is asked beside it. */
    private static void theLastTick() {
        FrameBroker x = at(99801);
        for (int tooMany : new int[] {200, 201, 0}) {
            Due.is("advance(" + tooMany + ")", Due.answer(() -> x.advance(tooMany)),
                    tooMany == 200 ? "throws IllegalStateException"
                    : "throws IllegalArgumentException");
            Due.is("tick", x.tick(), 99801);
        }
        Due.is("advance to 100000", x.advance(199), 100000);
        Due.is("picture", x.picture(0), 1000);

        FrameBroker y = at(100000);
        Due.is("advance(1) at the end", Due.answer(() -> y.advance(1)),
                "throws IllegalStateException");
        Due.is("advance(0) at the end", Due.answer(() -> y.advance(0)),
                "throws IllegalArgumentException");
        Due.is("advance(201) at the end", Due.answer(() -> y.advance(201)),
                "throws IllegalArgumentException");
        Due.is("tick at the end", y.tick(), 100000);
        Due.is("deadline at the end", y.deadline(0), NONE);

        FrameBroker z = at(99999);
        Due.is("advance(2)", Due.answer(() -> z.advance(2)), "throws IllegalStateException");
        Due.is("advance(1)", z.advance(1), 100000);
        Due.is("input at the end", z.input(0, 0), 0);
        Due.is("a deadline behind the end", z.deadline(0), 100050);
    }

    private static void oneTask() {
        FrameBroker x = new FrameBroker();
        x.open(0, 0, 1, 1, false, 4, 2);
        x.advance(1);
        Due.is("deadline at 1", x.deadline(0), 4);
        Due.is("picture at 1", x.picture(0), 0);
        x.advance(1);
        Due.is("picture at 2", x.picture(0), 1);
        Due.is("deadline at 2", x.deadline(0), NONE);
        x.advance(2);
        Due.is("deadline at 4", x.deadline(0), NONE);
        x.advance(1);
        Due.is("the next one begins where it is due", x.deadline(0), 8);
        x.advance(1);
        Due.is("picture at 6", x.picture(0), 2);
        Due.is("misses", x.misses(0), 0);
    }

    private static void theEarliestDeadlineFirst() {
        FrameBroker x = new FrameBroker();
        x.open(0, 0, 1, 1, false, 10, 3);
        x.open(1, 0, 1, 1, false, 5, 2);
        x.advance(2);
        Due.is("picture of the earlier one at 2", x.picture(1), 1);
        x.advance(2);
        Due.is("picture of the later one at 4", x.picture(0), 0);
        x.advance(1);
        Due.is("picture of the later one at 5", x.picture(0), 1);
        Due.is("the earlier one's next frame is not begun at 5", x.deadline(1), NONE);
        x.advance(2);
        Due.is("picture of the earlier one at 7", x.picture(1), 2);
        Due.is("no misses", x.misses(0) + x.misses(1), 0);
    }

    private static void theLowestNumberOfSeveral() {
        FrameBroker x = new FrameBroker();
        x.open(0, 0, 1, 1, false, 6, 2);
        x.open(1, 0, 1, 1, false, 6, 2);
        x.open(2, 0, 1, 1, false, 6, 2);
        x.lay(0, true);
        x.lay(2, false);
        for (int number = 0; number < 3; number++) {
            x.advance(1);
            Due.is("picture", x.picture(number), 0);
            x.advance(1);
            Due.is("picture", x.picture(number), 1);
        }
        // The last one is finished at its deadline itself: that is in time, and no miss.
        Due.is("misses of the last one", x.misses(2), 0);
        Due.is("pace of the last one", x.pace(2), 1);
    }

    /** Period 1, cost 3, alone: misses, a greater pace, three in time, and a miss again. */
    private static void missesAndPaces() {
        FrameBroker x = new FrameBroker();
        x.open(0, 0, 1, 1, false, 1, 3);
        int[][] want = {
            {1, 0, 1, 2, 2}, {2, 0, 2, 4, 4}, {3, 1, 2, 4, NONE}, {4, 1, 2, 4, NONE},
            {5, 1, 2, 4, 8}, {7, 2, 2, 4, NONE}, {8, 2, 2, 4, NONE}, {9, 2, 2, 4, 12},
            {10, 2, 2, 4, 12}, {11, 3, 2, 2, NONE}, {12, 3, 2, 2, NONE}, {13, 3, 2, 2, 14},
            {14, 3, 3, 4, 16}, {15, 4, 3, 4, NONE}, {19, 5, 3, 4, NONE}, {22, 5, 3, 4, 24},
            {23, 6, 3, 2, NONE}, {25, 6, 3, 2, 26}, {26, 6, 4, 4, 28}};
        for (int[] w : want) {
            x.advance(w[0] - x.tick());
            Due.is("picture at " + w[0], x.picture(0), w[1]);
            Due.is("misses at " + w[0], x.misses(0), w[2]);
            Due.is("pace at " + w[0], x.pace(0), w[3]);
            Due.is("deadline at " + w[0], x.deadline(0), w[4]);
        }
    }

    private static void theSlowestPace() {
        FrameBroker x = new FrameBroker();
        x.open(0, 0, 1, 1, false, 1, 20);
        int[][] want = {
            {1, 1, 2, 2}, {2, 2, 4, 4}, {3, 2, 4, 4}, {4, 3, 8, 8}, {7, 3, 8, 8}, {8, 4, 8, 16},
            {15, 4, 8, 16}, {16, 5, 8, 24}, {19, 5, 8, 24}, {20, 5, 8, NONE}, {24, 5, 8, NONE},
            {25, 5, 8, 32}, {32, 6, 8, 40}, {40, 7, 8, 48}, {44, 7, 8, NONE}};
        for (int[] w : want) {
            x.advance(w[0] - x.tick());
            Due.is("misses at " + w[0], x.misses(0), w[1]);
            Due.is("pace at " + w[0], x.pace(0), w[2]);
            Due.is("deadline at " + w[0], x.deadline(0), w[3]);
        }
        Due.is("picture", x.picture(0), 2);
    }

    private static void framesThatAreGone() {
        FrameBroker x = new FrameBroker();
        x.open(0, 0, 1, 1, false, 10, 5);
        x.advance(2);
        Due.box(x, 0, 0, 1, 1);
        Due.is("its frame is there until a tick passes", x.deadline(0), 10);
        x.lay(1, false);
        x.advance(1);
        Due.is("it goes on when the window is seen again", x.deadline(0), 10);
        x.lay(1, true);
        x.advance(1);
        Due.is("it is gone", x.deadline(0), NONE);
        Due.is("the slice went to the other one", x.picture(1), 1);
        x.advance(1);
        x.close(1);
        x.advance(1);
        Due.is("another one begins", x.deadline(0), 15);
        x.advance(3);
        Due.is("it has had no slices of the one before", x.picture(0), 0);
        x.advance(1);
        Due.is("picture", x.picture(0), 1);
        Due.is("misses", x.misses(0), 0);
    }

    /** A frame that is gone is due at once, one that was finished is due at its deadline. */
    private static void whenTheNextOneIsDue() {
        FrameBroker x = new FrameBroker();
        x.open(0, 0, 1, 1, false, 10, 1);
        x.advance(1);
        Due.is("picture", x.picture(0), 1);
        Due.box(x, 0, 0, 1, 1);
        x.advance(4);
        x.close(1);
        x.advance(5);
        Due.is("picture at 10", x.picture(0), 1);
        x.advance(1);
        Due.is("picture at 11", x.picture(0), 2);
    }

    private static void theThreeGoOnBehindAFrameThatIsGone() {
        FrameBroker x = new FrameBroker();
        x.open(0, 0, 1, 1, false, 2, 3);
        x.advance(7);
        Due.is("two in time behind a miss", x.picture(0), 2);
        Due.is("pace", x.pace(0), 2);
        x.advance(2);
        Due.is("a third is under way", x.deadline(0), 12);
        Due.box(x, 0, 0, 1, 1);
        x.advance(1);
        Due.is("it is gone", x.deadline(0), NONE);
        x.close(1);
        x.advance(2);
        Due.is("the one behind it", x.deadline(0), 14);
        Due.is("pace before it is finished", x.pace(0), 2);
        x.advance(1);
        Due.is("picture", x.picture(0), 3);
        Due.is("pace", x.pace(0), 1);
    }

    /** Two are finished in time, a surface is lost, and one more is finished: that makes three. */
    private static void theThreeGoOnBehindALostSurface() {
        FrameBroker x = new FrameBroker();
        x.open(0, 0, 8, 6, false, 2, 3);
        x.advance(7);
        Due.is("pace", x.pace(0), 2);
        Due.box(x, 0, 0, 8, 6);
        Due.box(x, 0, 0, 8, 6);
        Due.is("no surface", x.pagesOf(0), 0);
        Due.is("picture", x.picture(0), 0);
        x.close(1);
        x.close(2);
        x.advance(3);
        Due.is("pace before the third", x.pace(0), 2);
        Due.is("deadline", x.deadline(0), 12);
        x.advance(1);
        Due.is("picture of the new surface", x.picture(0), 1);
        Due.is("pace", x.pace(0), 1);
    }

    public static void main(String[] args) {
        ranges();
        theLastTick();
        oneTask();
        theEarliestDeadlineFirst();
        theLowestNumberOfSeveral();
        missesAndPaces();
        theSlowestPace();
        framesThatAreGone();
        whenTheNextOneIsDue();
        theThreeGoOnBehindAFrameThatIsGone();
        theThreeGoOnBehindALostSurface();
        Due.end();
    }
}
