/** Promise 18: pace. */
public final class P18PaceTest {
    private static void paceAt(FrameBroker x, int tick, int pace) {
        x.advance(tick - x.tick());
        Due.is("pace at " + tick, x.pace(0), pace);
    }

    private static void threeInTime() {
        FrameBroker x = new FrameBroker();
        x.open(0, 0, 1, 1, false, 2, 3);
        Due.is("at first", x.pace(0), 1);
        paceAt(x, 1, 1);
        paceAt(x, 2, 2);
        // Finished at 3 by its later deadline of 4, then at 7 and at 11.
        paceAt(x, 3, 2);
        paceAt(x, 7, 2);
        paceAt(x, 10, 2);
        paceAt(x, 11, 1);
        // From 12 on it misses at 14 again.
        paceAt(x, 13, 1);
        paceAt(x, 14, 2);
    }

    private static void atMostEight() {
        FrameBroker x = new FrameBroker();
        x.open(0, 0, 1, 1, false, 1, 20);
        int[] want = {2, 4, 4, 8, 8, 8, 8, 8, 8, 8, 8, 8, 8, 8, 8, 8, 8, 8, 8, 8};
        for (int i = 0; i < want.length; i++) {
            paceAt(x, i + 1, want[i]);
        }
    }

    private static void downFromEight() {
        FrameBroker x = new FrameBroker();
        x.open(0, 0, 1, 1, false, 4, 1);
        x.open(1, 0, 1, 1, false, 1, 20);
        for (int i = 0; i < 40; i++) {
            x.advance(1);
            int pace = x.pace(1);
            Due.is("a power of two", pace == 1 || pace == 2 || pace == 4 || pace == 8, true);
        }
        Due.is("pace of the slow one", x.pace(1), 8);
    }

    private static void neverBelowOne() {
        FrameBroker x = new FrameBroker();
        x.open(0, 0, 1, 1, false, 1, 1);
        x.advance(20);
        Due.is("many in time", x.pace(0), 1);
        Due.is("picture", x.picture(0), 20);
    }

    /** Two in time, a miss, and two in time make no three. */
    private static void aMissInBetween() {
        FrameBroker x = new FrameBroker();
        x.open(0, 0, 1, 1, false, 3, 4);
        x.open(1, 0, 1, 1, false, 100, 1);
        // A miss at 3; finished at 4 and 10, with the pace 2.
        paceAt(x, 3, 2);
        paceAt(x, 10, 2);
        Due.is("picture at 10", x.picture(0), 2);
        Due.is("misses at 10", x.misses(0), 1);
        // The third frame begins at 12, is hurried at 13, and misses at 15.
        paceAt(x, 13, 2);
        x.input(0, 0);
        Due.is("hurried", x.deadline(0), 15);
        paceAt(x, 15, 4);
        Due.is("misses at 15", x.misses(0), 2);
        Due.is("deadline at 15", x.deadline(0), 21);
        paceAt(x, 16, 4);
        Due.is("picture at 16", x.picture(0), 3);
        // It is the first of three; the next ones begin at 21 and 33.
        paceAt(x, 25, 4);
        Due.is("picture at 25", x.picture(0), 4);
        paceAt(x, 36, 4);
        paceAt(x, 37, 2);
        // They are counted from the beginning: three more at 49, 55, 61.
        Due.is("picture at 37", x.picture(0), 5);
        paceAt(x, 55, 2);
        Due.is("picture at 55", x.picture(0), 7);
        paceAt(x, 60, 2);
        paceAt(x, 61, 1);
    }

    public static void main(String[] args) {
        Due.isRefusedForNoWindow("pace", (x, window) -> x.pace(window));
        threeInTime();
        atMostEight();
        downFromEight();
        neverBelowOne();
        aMissInBetween();
        Due.end();
    }
}
