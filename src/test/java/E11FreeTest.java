/** Promise 11, its edges: from none to 24 free pages. */
public final class E11FreeTest {
    public static void main(String[] args) {
        Due.says("Returns how many pages are free");
        Due.is("all", new FrameBroker().free(), 24);
        int[][] sizes = {{4, 1}, {8, 1}, {6, 2}, {8, 2}, {5, 4}, {8, 3}, {7, 4}, {8, 4}, {6, 6},
            {8, 5}, {7, 6}, {8, 6}};
        for (int first = 1; first <= 12; first++) {
            FrameBroker x = new FrameBroker();
            Due.box(x, 0, 0, sizes[first - 1][0], sizes[first - 1][1]);
            Due.is("behind an opening", x.free(), 24 - first);
            x.open(0, 0, 8, 6, true, 1, 1);
            Due.is("behind another opening", x.free(), 12 - first);
            x.advance(9);
            x.lay(0, true);
            x.lay(0, false);
            x.move(0, 0, 0);
            Due.is("behind other calls", x.free(), 12 - first);
            x.close(0);
            Due.is("behind a closing", x.free(), 12);
            x.close(1);
            Due.is("behind another closing", x.free(), 24);
        }
        Due.end();
    }
}
