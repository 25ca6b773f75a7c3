/** Promise 14, its edges. */
public final class E14PlaceOfTest {
    public static void main(String[] args) {
        Due.says("placeOf: window: a window");
        Due.isAnsweredForEachWindow("placeOf", (x, window) -> x.placeOf(window));
        Due.says("placeOf Throws IndexOutOfBoundsException if there is no such window");
        Due.isRefusedForNoWindow("placeOf", (x, window) -> x.placeOf(window));
        Due.says("placeOf Returns from 0, the bottom");
        for (int count = 1; count <= 8; count++) {
            FrameBroker x = Due.eightOfForty(count);
            for (int place = 0; place < count; place++) {
                Due.is("placeOf", x.placeOf(40 - count + place), place);
            }
            x.lay(39, false);
            Due.is("the bottom", x.placeOf(39), 0);
            x.lay(39, true);
            Due.is("the top", x.placeOf(39), count - 1);
        }
        Due.end();
    }
}
