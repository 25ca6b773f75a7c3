/** Promise 8, its sentences: each damage from 0 to 48, and none behind a showing. */
public final class E08ShowTest {
    public static void main(String[] args) {
        for (int width = 1; width <= 8; width++) {
            for (int height = 1; height <= 6; height++) {
                Due.says("show Returns the damage ahead of it");
                FrameBroker x = new FrameBroker();
                Due.is("show of nothing", x.show(), 0);
                Due.box(x, 8 - width, 6 - height, width, height);
                int cells = width * height;
                Due.is("show of a window", x.show(), cells);
                x.advance(1);
                Due.is("show of its picture", x.show(), cells);
                Due.says("Shows the screen");
                Due.is("damage behind it", x.damage(), 0);
                Due.is("show again", x.show(), 0);
                x.close(0);
                Due.is("show of nothing again", x.show(), cells);
                Due.is("damage behind it", x.damage(), 0);
            }
        }
        Due.says("show lets no tick pass, and changes no window");
        FrameBroker x = Due.twoStarve();
        FrameBroker same = Due.twoStarve();
        x.advance(5);
        same.advance(5);
        Due.is("show", x.show(), same.damage());
        Due.is("tick", x.tick(), 5);
        same.show();
        same.show();
        Due.is("the state", Due.state(x), Due.state(same));
        Due.end();
    }
}
