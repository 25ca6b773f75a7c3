/** Promise 16: pagesOf. */
public final class P16PagesOfTest {
    public static void main(String[] args) {
        Due.isRefusedForNoWindow("pagesOf", (x, window) -> x.pagesOf(window));
        for (int width = 1; width <= 8; width++) {
            for (int height = 1; height <= 6; height++) {
                FrameBroker x = new FrameBroker();
                x.open(8 - width, 6 - height, width, height, width % 2 == 0, 1, 1);
                int cells = width * height;
                Due.is("pages", x.pagesOf(0), cells / 4 + (cells % 4 == 0 ? 0 : 1));
            }
        }
        FrameBroker y = Due.seenWithoutSurface();
        Due.is("without a surface", y.pagesOf(0), 0);
        Due.is("with one", y.pagesOf(1), 10);
        y.close(2);
        Due.is("with one again", y.pagesOf(0), 1);
        Due.end();
    }
}
