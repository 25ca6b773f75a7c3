/** Promise 17: picture. */
public final class P17PictureTest {
    public static void main(String[] args) {
        Due.isRefusedForNoWindow("picture", (x, window) -> x.picture(window));
        FrameBroker x = new FrameBroker();
        x.open(0, 0, 8, 6, false, 3, 2);
        Due.is("at first", x.picture(0), 0);
        int[] want = {0, 1, 1, 1, 2, 2, 2, 3, 3, 3, 4};
        for (int picture : want) {
            x.advance(1);
            Due.is("picture at " + x.tick(), x.picture(0), picture);
        }
        Due.box(x, 0, 0, 8, 6);
        x.advance(20);
        Due.is("asleep", x.picture(0), 4);
        Due.is("the other one's", x.picture(1), 1);
        Due.box(x, 0, 0, 1, 1);
        Due.is("its surface is lost", x.picture(0), 0);
        x.close(1);
        x.advance(2);
        Due.is("the first one of a new surface", x.picture(0), 1);

        FrameBroker y = new FrameBroker();
        y.open(0, 0, 1, 1, false, 1, 1);
        y.advance(200);
        Due.is("one each tick", y.picture(0), 200);
        Due.end();
    }
}
