/** Promise 18, its edges: each pace that there is. */
public final class E18PaceTest {
    public static void main(String[] args) {
        Due.says("pace: window: a window");
        Due.isAnsweredForEachWindow("pace", (x, window) -> x.pace(window));
        Due.says("pace Throws IndexOutOfBoundsException if there is no such window");
        Due.isRefusedForNoWindow("pace", (x, window) -> x.pace(window));
        Due.says("pace Returns 1, 2, 4 or 8, going up");
        FrameBroker x = new FrameBroker();
        x.open(0, 0, 1, 1, false, 3, 20);
        int[][] up = {{0, 1}, {2, 1}, {3, 2}, {5, 2}, {6, 4}, {11, 4}, {12, 8}, {19, 8}, {24, 8}};
        for (int[] u : up) {
            if (u[0] > x.tick()) {
                x.advance(u[0] - x.tick());
            }
            Due.is("pace at " + u[0], x.pace(0), u[1]);
        }
        Due.says("pace Returns 8, 4, 2 or 1, going down");
        FrameBroker y = Due.paceEight();
        int[][] down = {{24, 8}, {25, 4}, {40, 4}, {41, 2}, {48, 2}, {49, 1}, {90, 1}};
        for (int[] d : down) {
            y.advance(d[0] - y.tick());
            Due.is("pace at " + d[0], y.pace(1), d[1]);
        }
        Due.end();
    }
}
