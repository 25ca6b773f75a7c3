/** Promise 8: show. */
public final class P08ShowTest {
    public static void main(String[] args) {
        FrameBroker x = new FrameBroker();
        Due.is("show of nothing", x.show(), 0);
        Due.box(x, 1, 1, 3, 2);
        Due.is("show", x.show(), 6);
        Due.is("damage behind it", x.damage(), 0);
        Due.is("show again", x.show(), 0);
        x.advance(1);
        Due.is("picture", x.picture(0), 1);
        Due.is("show of the next picture", x.show(), 6);
        x.advance(50);
        Due.is("show without a change", x.show(), 0);
        Due.is("it lets no tick pass", x.tick(), 51);
        x.move(0, 2, 1);
        Due.is("show behind a move", x.show(), 4);
        x.close(0);
        Due.is("show behind a closing", x.show(), 6);
        Due.is("show of an empty screen", x.show(), 0);
        Due.box(x, 0, 0, 8, 6);
        Due.is("show of a full screen", x.show(), 48);
        Due.end();
    }
}
