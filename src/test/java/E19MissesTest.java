/** Promise 19, its edges: none, one at each tick, and as many as a long run brings. */
public final class E19MissesTest {
    private static FrameBroker one() {
        FrameBroker x = new FrameBroker();
        x.open(0, 0, 1, 1, false, 1, 20);
        return x;
    }

    public static void main(String[] args) {
        Due.says("misses: window: a window");
        Due.isAnsweredForEachWindow("misses", (x, window) -> x.misses(window));
        Due.says("misses Throws IndexOutOfBoundsException if there is no such window");
        Due.isRefusedForNoWindow("misses", (x, window) -> x.misses(window));
        Due.says("misses Returns how many");
        FrameBroker x = one();
        Due.is("at first", x.misses(0), 0);
        // The first frame misses at 1, 2, 4, 8 and 16, and is finished at 20.
        int[][] want = {{1, 1}, {2, 2}, {3, 2}, {4, 3}, {7, 3}, {8, 4}, {15, 4}, {16, 5}, {24, 5},
            {31, 5}, {32, 6}, {40, 7}, {55, 7}, {56, 8}};
        for (int[] w : want) {
            x.advance(w[0] - x.tick());
            Due.is("misses at " + w[0], x.misses(0), w[1]);
        }
        // Each later one begins 24 ticks behind the one before, and misses twice in them.
        FrameBroker y = one();
        Due.pass(y, 100000);
        Due.is("misses of the first, of 4165 others, and of the last one", y.misses(0),
                5 + 2 * 4165 + 2);
        Due.is("picture", y.picture(0), 4166);
        Due.end();
    }
}
