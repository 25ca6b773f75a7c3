/** Terms: finished frames, point 4 of a tick: the picture, the next frame, three in time. */
public final class T5FinishedTest {
    private static final int NONE = FrameBroker.NONE;

    private static FrameBroker one(int period, int cost) {
        FrameBroker x = new FrameBroker();
        x.open(0, 0, 1, 1, false, period, cost);
        return x;
    }

    /** The pace and the picture of a window at a later tick. */
    private static void at(FrameBroker x, int tick, int window, int pace, int picture) {
        if (tick > x.tick()) {
            x.advance(tick - x.tick());
        }
        Due.is("pace at " + tick, x.pace(window), pace);
        Due.is("picture at " + tick, x.picture(window), picture);
    }

    private static void asManySlicesAsTheCost() {
        Due.says("4. If that frame has had as many slices as the cost, it is finished");
        for (int cost = 1; cost <= 20; cost++) {
            FrameBroker x = one(100, cost);
            if (cost > 1) {
                at(x, cost - 1, 0, 1, 0);
                Due.is("under way", x.deadline(0), 100);
            }
            at(x, cost, 0, 1, 1);
            Due.is("none under way", x.deadline(0), NONE);
            at(x, 99 + cost, 0, 1, 1);
            at(x, 100 + cost, 0, 1, 2);
        }
    }

    private static void thePictureIsOneMore() {
        Due.says("4. the picture of its window is 1 more");
        FrameBroker x = one(1, 1);
        x.open(1, 0, 1, 1, false, 100, 1);
        for (int tick = 1; tick <= 50; tick++) {
            at(x, tick, 0, 1, tick);
            Due.is("picture of the other one", x.picture(1), 0);
        }
    }

    private static void theNextOneIsDueAtItsDeadline() {
        Due.says("4. the next frame is due at its deadline");
        for (int period = 1; period <= 100; period++) {
            FrameBroker x = one(period, 1);
            at(x, 1, 0, 1, 1);
            at(x, period, 0, 1, 1);
            at(x, period + 1, 0, 1, 2);
        }
        Due.says("4. of a hurried one, at its earlier deadline");
        FrameBroker x = one(10, 5);
        x.advance(1);
        x.input(0, 0);
        // Its deadline is 6 instead of 10; it is finished at 5.
        at(x, 5, 0, 1, 1);
        x.advance(1);
        Due.is("none before 6", x.deadline(0), NONE);
        x.advance(1);
        Due.is("the next one's deadline", x.deadline(0), 16);
        Due.says("4. of a miss, at its later deadline");
        FrameBroker y = one(4, 5);
        // A miss at 4, it is finished at 5 with the deadline 8.
        at(y, 5, 0, 2, 1);
        y.advance(3);
        Due.is("none before 8", y.deadline(0), NONE);
        y.advance(1);
        Due.is("the next one's deadline", y.deadline(0), 16);
    }

    private static void inTimeAtItsDeadline() {
        Due.says("4. If its deadline is this tick or a later one, it is in time");
        for (int cost = 1; cost <= 20; cost++) {
            FrameBroker x = one(cost, cost);
            for (int frame = 1; frame <= 8; frame++) {
                at(x, frame * cost, 0, 1, frame);
                Due.is("misses", x.misses(0), 0);
            }
        }
        FrameBroker x = one(2, 4);
        // A miss at 2; then three are finished at their deadlines 4, 8 and 12.
        at(x, 4, 0, 2, 1);
        at(x, 8, 0, 2, 2);
        at(x, 11, 0, 2, 2);
        at(x, 12, 0, 1, 3);
    }

    private static void inTimeByItsLaterDeadline() {
        Due.says("4. in time (also if it was a miss, by its later deadline)");
        FrameBroker x = one(2, 3);
        // A miss at 2, finished at 3; the next ones at 7 and at 11.
        at(x, 3, 0, 2, 1);
        at(x, 7, 0, 2, 2);
        at(x, 10, 0, 2, 2);
        at(x, 11, 0, 1, 3);
    }

    private static void threeInTime() {
        Due.says("4. when three frames of a window are in time, its pace becomes half");
        FrameBroker x = Due.paceEight();
        int[][] want = {{8, 8, 0}, {9, 8, 1}, {16, 8, 1}, {17, 8, 2}, {24, 8, 2}, {25, 4, 3}};
        for (int[] w : want) {
            at(x, w[0], 1, w[1], w[2]);
        }
        Due.says("4. and they are counted from the beginning");
        int[][] later = {{32, 4, 3}, {33, 4, 4}, {37, 4, 5}, {40, 4, 5}, {41, 2, 6}, {45, 2, 7},
            {47, 2, 8}, {48, 2, 8}, {49, 1, 9}};
        for (int[] w : later) {
            at(x, w[0], 1, w[1], w[2]);
        }
        Due.says("4. if it is above 1");
        for (int tick = 51; tick <= 80; tick++) {
            at(x, tick, 1, 1, tick - 41);
        }
        Due.is("misses", x.misses(1), 4);
    }

    private static void ofOneWindow() {
        Due.says("4. three frames of a window, each window by itself");
        FrameBroker x = new FrameBroker();
        x.open(0, 0, 1, 1, false, 2, 3);
        x.open(1, 0, 1, 1, false, 1, 1);
        // 1 comes first at 0; 0 misses at 2.
        x.advance(1);
        Due.is("picture of the other one", x.picture(1), 1);
        x.move(1, 0, 1);
        x.close(1);
        at(x, 2, 0, 2, 0);
        // Finished at 4, 8 and 11: the other one's frame does not count.
        at(x, 4, 0, 2, 1);
        at(x, 7, 0, 2, 2);
        at(x, 10, 0, 2, 2);
        at(x, 11, 0, 1, 3);
    }

    /**
     * A window of the period 2 and the cost 2. Input at 0 hurries its first frame, which misses
     * at 1; it is finished at 2, and the next one at 5: two in time, with the pace 2.
     */
    private static FrameBroker twoInTime(int width, int height) {
        FrameBroker x = new FrameBroker();
        x.open(0, 0, width, height, false, 2, 2);
        x.input(0, 0);
        at(x, 1, 0, 2, 0);
        at(x, 2, 0, 2, 1);
        at(x, 5, 0, 2, 2);
        return x;
    }

    private static void withoutAMissInBetween() {
        Due.says("4. without a miss in between");
        FrameBroker x = twoInTime(1, 1);
        x.advance(2);
        x.input(0, 0);
        Due.is("the third one is hurried", x.deadline(0), 8);
        at(x, 8, 0, 4, 2);
        Due.is("it is a miss", x.misses(0), 2);
        // Finished at 9, it is the first of three; the others are finished at 14 and 22.
        at(x, 9, 0, 4, 3);
        at(x, 14, 0, 4, 4);
        at(x, 21, 0, 4, 4);
        at(x, 22, 0, 2, 5);
        at(x, 30, 0, 2, 6);
        at(x, 34, 0, 2, 7);
        at(x, 37, 0, 2, 7);
        at(x, 38, 0, 1, 8);
        Due.is("misses", x.misses(0), 2);
    }

    private static void framesThatAreGone() {
        Due.says("4. (frames that are gone do not matter)");
        FrameBroker x = twoInTime(1, 1);
        x.advance(3);
        Due.is("a third is under way", x.deadline(0), 11);
        Due.box(x, 0, 0, 1, 1);
        x.advance(1);
        Due.is("it is gone", x.deadline(0), NONE);
        x.close(1);
        at(x, 10, 0, 2, 2);
        at(x, 11, 0, 1, 3);
    }

    private static void lostSurfaces() {
        Due.says("4. (lost surfaces do not matter)");
        for (int tick = 6; tick <= 8; tick++) {
            FrameBroker x = twoInTime(8, 6);
            x.advance(tick - 5);
            Due.is("under way", x.deadline(0), tick == 8 ? 11 : NONE);
            Due.box(x, 0, 0, 8, 6);
            Due.box(x, 0, 0, 8, 6);
            Due.is("no surface", x.pagesOf(0), 0);
            Due.is("none under way", x.deadline(0), NONE);
            x.close(1);
            x.close(2);
            Due.is("a surface", x.pagesOf(0), 12);
            // The third one begins where it was due at 7, or at 8, where one was lost.
            int finished = tick == 8 ? 10 : 9;
            at(x, finished - 1, 0, 2, 0);
            at(x, finished, 0, 1, 1);
        }
    }

    private static void thePictureCounts() {
        Due.says("(The picture of a window counts its finished frames; it begins from 0 again when"
                + " it loses its surface.)");
        FrameBroker x = new FrameBroker();
        x.open(0, 0, 8, 6, false, 3, 1);
        at(x, 10, 0, 1, 4);
        Due.box(x, 0, 0, 8, 6);
        at(x, 11, 0, 1, 4);
        x.lay(0, true);
        Due.is("it keeps it asleep", x.picture(0), 4);
        Due.box(x, 0, 0, 8, 6);
        Due.is("the lowest one, 1, has lost its surface", x.pagesOf(1), 0);
        Due.is("and its picture", x.picture(1), 0);
        Due.box(x, 0, 0, 8, 6);
        Due.is("now 0 has lost its own", x.pagesOf(0), 0);
        Due.is("the picture of 0", x.picture(0), 0);
        x.lay(0, true);
        Due.is("it has one again", x.pagesOf(0), 12);
        Due.is("from 0", x.picture(0), 0);
        at(x, 12, 0, 1, 0);
        at(x, 13, 0, 1, 1);
        at(x, 16, 0, 1, 2);
    }

    public static void main(String[] args) {
        asManySlicesAsTheCost();
        thePictureIsOneMore();
        theNextOneIsDueAtItsDeadline();
        inTimeAtItsDeadline();
        inTimeByItsLaterDeadline();
        threeInTime();
        ofOneWindow();
        withoutAMissInBetween();
        framesThatAreGone();
        lostSurfaces();
        thePictureCounts();
        Due.end();
    }
}
