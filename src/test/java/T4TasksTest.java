/** Terms: tasks, and what a tick that passes does, in its points 1 to 3 and 5. */
public final class T4TasksTest {
    private static final int NONE = FrameBroker.NONE;

    private static FrameBroker one(int period, int cost) {
        FrameBroker x = new FrameBroker();
        x.open(0, 0, 1, 1, false, period, cost);
        return x;
    }

    /** The pace and the deadline of a window at a later tick. */
    private static void at(FrameBroker x, int tick, int window, int pace, int deadline) {
        if (tick > x.tick()) {
            Due.pass(x, tick - x.tick());
        }
        Due.is("pace of " + window + " at " + tick, x.pace(window), pace);
        Due.is("deadline of " + window + " at " + tick, x.deadline(window), deadline);
    }

    private static void pictures(FrameBroker x, int... ofWindows) {
        for (int window = 0; window < ofWindows.length; window++) {
            Due.is("picture of " + window + " at " + x.tick(), x.picture(window),
                    ofWindows[window]);
        }
    }

    private static void atFirst() {
        Due.says("A window has a pace, 1 at first");
        Due.is("pace", one(5, 5).pace(0), 1);
        Due.is("deadline by it", one(5, 6).advance(1), 1);
        FrameBroker late = Due.paceEight();
        int window = late.open(5, 5, 1, 1, false, 9, 9);
        Due.is("pace of another one", late.pace(window), 1);
        Due.says("It has a frame under way or none");
        Due.is("none at first", one(5, 5).deadline(0), NONE);
        Due.says("its next frame is due, at first, at the tick at which it was opened");
        for (int tick : new int[] {0, 1, 7, 199, 200, 201, 5000}) {
            FrameBroker x = new FrameBroker();
            Due.pass(x, tick);
            x.open(0, 0, 1, 1, false, 9, 2);
            at(x, tick, 0, 1, NONE);
            at(x, tick + 1, 0, 1, tick + 9);
        }
        FrameBroker x = one(100, 1);
        x.advance(50);
        x.open(1, 0, 1, 1, false, 9, 2);
        at(x, 51, 1, 1, 59);
    }

    private static void oneThatIsNotSeen() {
        Due.says("1. if it is not seen, a frame that is under way is gone, and if one was, the next"
                + " one is due at this tick");
        FrameBroker x = one(30, 9);
        x.advance(4);
        Due.box(x, 0, 0, 1, 1);
        at(x, 4, 0, 1, 30);
        at(x, 5, 0, 1, NONE);
        at(x, 9, 0, 1, NONE);
        x.close(1);
        at(x, 9, 0, 1, NONE);
        at(x, 10, 0, 1, 39);
        FrameBroker y = one(30, 9);
        y.advance(4);
        Due.box(y, 0, 0, 1, 1);
        y.advance(1);
        y.close(1);
        // Due at 4, the frame begins at once.
        at(y, 6, 0, 1, 35);
        Due.says("1. hidden and seen again before a tick passes, it goes on");
        FrameBroker z = one(30, 9);
        z.advance(4);
        z.close(Due.box(z, 0, 0, 1, 1));
        at(z, 5, 0, 1, 30);
        z.advance(4);
        pictures(z, 1);
    }

    private static void oneWithoutASurface() {
        Due.says("1. if it has no surface, none begins, though it is seen and the next one is due");
        FrameBroker x = Due.twoStarve();
        Due.is("isSeen", x.isSeen(0) && x.isSeen(1), true);
        x.advance(7);
        at(x, 7, 0, 1, NONE);
        at(x, 7, 1, 1, NONE);
        x.close(6);
        Due.is("the upper one has a page", x.pagesOf(1), 1);
        at(x, 8, 1, 1, 17);
        at(x, 8, 0, 1, NONE);
        x.close(5);
        at(x, 9, 0, 1, 18);
    }

    private static void noneWasUnderWay() {
        Due.says("1. if none was under way, the next one stays due where it was");
        FrameBroker x = one(30, 2);
        x.advance(2);
        pictures(x, 1);
        Due.box(x, 0, 0, 1, 1);
        x.advance(5);
        x.close(1);
        at(x, 30, 0, 1, NONE);
        at(x, 31, 0, 1, 60);
    }

    private static void oneBeginsIfDue() {
        Due.says("1. otherwise, if the next one is due at this tick, a frame begins");
        FrameBroker x = one(10, 2);
        at(x, 2, 0, 1, NONE);
        at(x, 10, 0, 1, NONE);
        at(x, 11, 0, 1, 20);
        Due.says("1. otherwise, if the next one is due before, a frame begins");
        FrameBroker y = one(10, 2);
        y.advance(2);
        Due.box(y, 0, 0, 1, 1);
        y.advance(23);
        y.close(1);
        at(y, 25, 0, 1, NONE);
        at(y, 26, 0, 1, 35);
        Due.says("1. if it has one under way, none begins");
        FrameBroker z = one(10, 15);
        at(z, 9, 0, 1, 10);
        at(z, 14, 0, 2, 20);
        pictures(z, 0);
        z.advance(1);
        pictures(z, 1);
    }

    private static void noSlicesAtFirst() {
        Due.says("1. a frame begins: it has had no slices");
        FrameBroker x = one(10, 3);
        x.advance(2);
        Due.box(x, 0, 0, 1, 1);
        x.advance(1);
        x.close(1);
        x.advance(2);
        pictures(x, 0);
        x.advance(1);
        pictures(x, 1);
        // The next one is due at 13, three slices before 16.
        Due.pass(x, 15 - x.tick());
        pictures(x, 1);
        x.advance(1);
        pictures(x, 2);
    }

    private static void itsDeadline() {
        Due.says("1. its deadline is this tick, and the period times the pace, added");
        for (int period = 1; period <= 100; period++) {
            FrameBroker x = new FrameBroker();
            x.advance(13);
            x.open(0, 0, 1, 1, false, period, 2);
            x.advance(1);
            Due.is("deadline of the period " + period, x.deadline(0),
                    period == 1 ? 15 : 13 + period);
        }
        FrameBroker x = one(1, 3);
        // It misses at 1 and 2, is finished at 3, and is due at 4.
        at(x, 5, 0, 4, 8);
        // Finished at 7 and at 11, it is due at 12.
        at(x, 13, 0, 2, 14);
        FrameBroker y = one(1, 20);
        at(y, 25, 0, 8, 32);
    }

    private static void theEarliestDeadline() {
        Due.says("2. Of all frames under way that with the earliest deadline gets a slice");
        FrameBroker x = new FrameBroker();
        x.open(0, 0, 1, 1, false, 12, 2);
        x.open(1, 0, 1, 1, false, 8, 2);
        x.open(2, 0, 1, 1, false, 10, 2);
        x.advance(1);
        pictures(x, 0, 0, 0);
        x.advance(1);
        pictures(x, 0, 1, 0);
        x.advance(1);
        pictures(x, 0, 1, 0);
        x.advance(1);
        pictures(x, 0, 1, 1);
        x.advance(1);
        pictures(x, 0, 1, 1);
        x.advance(1);
        pictures(x, 1, 1, 1);
        x.advance(3);
        pictures(x, 1, 1, 1);
        x.advance(1);
        pictures(x, 1, 2, 1);
        Due.says("2. one that begins later, with an earlier deadline, comes first");
        FrameBroker y = one(50, 3);
        y.advance(2);
        y.open(1, 0, 1, 1, false, 47, 2);
        y.advance(2);
        pictures(y, 0, 1);
        y.advance(1);
        pictures(y, 1, 1);
    }

    private static void theLowestNumber() {
        Due.says("2. of several that of the window with the lowest number");
        for (boolean isTop : new boolean[] {false, true}) {
            FrameBroker x = new FrameBroker();
            for (int number = 0; number < 8; number++) {
                x.open(number, 0, 1, 1, false, 40, 2);
                x.lay(number, isTop);
            }
            for (int drawn = 0; drawn < 8; drawn++) {
                x.advance(1);
                Due.is("picture before", x.picture(drawn), 0);
                x.advance(1);
                for (int number = 0; number < 8; number++) {
                    Due.is("picture", x.picture(number), number <= drawn ? 1 : 0);
                }
            }
        }
        // Window 1 begins at 1 with the deadline 10, as window 0 has.
        FrameBroker x = one(10, 3);
        x.advance(1);
        x.open(1, 0, 1, 1, false, 9, 1);
        x.advance(2);
        pictures(x, 1, 0);
        x.advance(1);
        pictures(x, 1, 1);
    }

    private static void oneSlice() {
        Due.says("2. one frame gets one slice");
        FrameBroker x = new FrameBroker();
        for (int number = 0; number < 8; number++) {
            x.open(number, 0, 1, 1, false, 8, 1);
        }
        for (int tick = 1; tick <= 24; tick++) {
            x.advance(1);
            int sum = 0;
            for (int number = 0; number < 8; number++) {
                sum += x.picture(number);
            }
            Due.is("pictures at " + tick, sum, tick);
        }
        Due.is("no misses", x.misses(7), 0);
    }

    private static void theNextTick() {
        Due.says("3. It is the next tick");
        FrameBroker x = new FrameBroker();
        for (int tick = 1; tick <= 60; tick++) {
            Due.is("advance(1)", x.advance(1), tick);
            Due.is("tick", x.tick(), tick);
        }
        // Many ticks at once are the same as one after the other.
        FrameBroker many = new FrameBroker();
        FrameBroker single = new FrameBroker();
        for (FrameBroker y : new FrameBroker[] {many, single}) {
            y.open(0, 0, 2, 2, false, 3, 2);
            y.open(1, 1, 2, 2, false, 4, 3);
            y.open(2, 2, 2, 2, true, 5, 1);
        }
        for (int i = 0; i < 100; i++) {
            single.advance(1);
        }
        many.advance(100);
        Due.is("behind 100 ticks", Due.state(many), Due.state(single));
    }

    private static void eachIsAMiss() {
        Due.says("5. Each frame under way whose deadline is this tick is a miss");
        FrameBroker x = new FrameBroker();
        for (int number = 0; number < 8; number++) {
            x.open(number, 0, 1, 1, false, number == 4 ? 6 : 5, 20);
        }
        x.advance(4);
        for (int number = 0; number < 8; number++) {
            Due.is("misses at 4", x.misses(number), 0);
        }
        x.advance(1);
        for (int number = 0; number < 8; number++) {
            Due.is("misses at 5", x.misses(number), number == 4 ? 0 : 1);
            at(x, 5, number, number == 4 ? 1 : 2, number == 4 ? 6 : 10);
        }
        x.advance(1);
        Due.is("misses at 6", x.misses(4), 1);
        at(x, 6, 4, 2, 12);
        Due.is("misses of another at 6", x.misses(5), 1);
    }

    private static void whatIsNoMiss() {
        Due.says("5. no frame under way, no miss");
        FrameBroker x = one(5, 2);
        x.advance(100);
        Due.is("misses of one in time", x.misses(0), 0);
        FrameBroker y = one(5, 20);
        y.advance(4);
        Due.box(y, 0, 0, 1, 1);
        at(y, 5, 0, 1, NONE);
        y.advance(20);
        Due.is("misses of one that is gone", y.misses(0), 0);
        Due.says("5. hidden at its deadline it has missed already, at that tick");
        FrameBroker z = one(5, 20);
        z.advance(5);
        Due.box(z, 0, 0, 1, 1);
        at(z, 6, 0, 2, NONE);
        Due.is("misses", z.misses(0), 1);
    }

    private static void itGoesOn() {
        Due.says("5. it goes on");
        for (int cost = 4; cost <= 6; cost++) {
            FrameBroker x = one(3, cost);
            x.advance(cost - 1);
            pictures(x, 0);
            x.advance(1);
            pictures(x, 1);
            Due.is("misses", x.misses(0), 1);
        }
    }

    private static void laterByThePaceAsItWas() {
        Due.says("5. its deadline is later by the period times the pace as it was");
        FrameBroker x = one(1, 20);
        int[][] want = {{1, 2, 2}, {2, 4, 4}, {3, 4, 4}, {4, 8, 8}, {7, 8, 8}, {8, 8, 16},
            {15, 8, 16}, {16, 8, 24}, {19, 8, 24}, {20, 8, NONE}};
        for (int[] w : want) {
            at(x, w[0], 0, w[1], w[2]);
        }
        FrameBroker y = one(7, 20);
        at(y, 6, 0, 1, 7);
        at(y, 7, 0, 2, 14);
        at(y, 13, 0, 2, 14);
        at(y, 14, 0, 4, 28);
    }

    /** Five tasks of the cost 20 use up each 100 ticks, so that a sixth one gets no slice. */
    private static void twiceAsGreatButAtMostEight() {
        Due.says("5. and the pace becomes twice as great, but at most 8");
        FrameBroker x = new FrameBroker();
        for (int number = 0; number < 6; number++) {
            x.open(number, 0, 1, 1, false, 100, 20);
        }
        int[][] want = {{1, 1, 100}, {99, 1, 100}, {100, 2, 200}, {199, 2, 200}, {200, 4, 400},
            {399, 4, 400}, {400, 8, 800}, {799, 8, 800}, {800, 8, 1600}, {1599, 8, 1600},
            {1600, 8, 2400}, {2400, 8, 3200}};
        for (int[] w : want) {
            at(x, w[0], 5, w[1], w[2]);
        }
        Due.is("misses", x.misses(5), 6);
        pictures(x, 24, 24, 24, 24, 24, 0);
        for (int number = 0; number < 5; number++) {
            Due.is("misses of the others", x.misses(number), 0);
        }
    }

    public static void main(String[] args) {
        atFirst();
        oneThatIsNotSeen();
        oneWithoutASurface();
        noneWasUnderWay();
        oneBeginsIfDue();
        noSlicesAtFirst();
        itsDeadline();
        theEarliestDeadline();
        theLowestNumber();
        oneSlice();
        theNextTick();
        eachIsAMiss();
        whatIsNoMiss();
        itGoesOn();
        laterByThePaceAsItWas();
        twiceAsGreatButAtMostEight();
        Due.end();
    }
}
