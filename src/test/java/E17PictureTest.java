/** Promise 17, its edges: from 0 to as many pictures as there are ticks. */
public final class E17PictureTest {
    public static void main(String[] args) {
        Due.says("picture: window: a window");
        Due.isAnsweredForEachWindow("picture", (x, window) -> x.picture(window));
        Due.says("picture Throws IndexOutOfBoundsException if there is no such window");
        Due.isRefusedForNoWindow("picture", (x, window) -> x.picture(window));
        Due.says("picture Returns its number");
        FrameBroker x = new FrameBroker();
        x.open(0, 0, 1, 1, false, 1, 1);
        Due.is("at first", x.picture(0), 0);
        x.advance(1);
        Due.is("the first one", x.picture(0), 1);
        Due.pass(x, 99999);
        Due.is("one for each tick", x.picture(0), 100000);
        Due.end();
    }
}
