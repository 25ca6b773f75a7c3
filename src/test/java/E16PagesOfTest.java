/** Promise 16, its edges. */
public final class E16PagesOfTest {
    public static void main(String[] args) {
        Due.says("pagesOf: window: a window");
        Due.isAnsweredForEachWindow("pagesOf", (x, window) -> x.pagesOf(window));
        Due.says("pagesOf Throws IndexOutOfBoundsException if there is no such window");
        Due.isRefusedForNoWindow("pagesOf", (x, window) -> x.pagesOf(window));
        Due.says("pagesOf Returns how many; 0 without a surface");
        for (int width = 1; width <= 8; width++) {
            for (int height = 1; height <= 6; height++) {
                FrameBroker x = new FrameBroker();
                int needed = (width * height + 3) / 4;
                Due.box(x, 0, 0, width, height);
                Due.is("one with a surface", x.pagesOf(0), needed);
                Due.box(x, 0, 0, 8, 6);
                Due.is("one that is asleep", x.pagesOf(0), needed);
                Due.box(x, 0, 0, 8, 6);
                Due.is("one without a surface", x.pagesOf(0), 0);
                x.lay(0, true);
                Due.is("one with a surface again", x.pagesOf(0), needed);
            }
        }
        Due.end();
    }
}
