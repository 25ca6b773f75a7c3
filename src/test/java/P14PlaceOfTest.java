/** Promise 14: placeOf. */
public final class P14PlaceOfTest {
    public static void main(String[] args) {
        Due.isRefusedForNoWindow("placeOf", (x, window) -> x.placeOf(window));
        FrameBroker x = new FrameBroker();
        for (int i = 0; i < 8; i++) {
            Due.box(x, i, 0, 1, 1);
            Due.is("the place of a new one", x.placeOf(i), i);
        }
        Due.is("the lowest one's", x.placeOf(0), 0);
        x.lay(7, false);
        Due.is("the lowered one's", x.placeOf(7), 0);
        Due.is("the next one's", x.placeOf(0), 1);
        Due.is("the topmost one's", x.placeOf(6), 7);
        x.close(2);
        Due.is("one's below the closed one", x.placeOf(1), 2);
        Due.is("one's above the closed one", x.placeOf(3), 3);
        Due.is("the topmost one's", x.placeOf(6), 6);
        x.move(1, 0, 0);
        Due.is("a moved one's", x.placeOf(1), 2);
        Due.end();
    }
}
