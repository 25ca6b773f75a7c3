/** Promise 9: tick. */
public final class P09TickTest {
    public static void main(String[] args) {
        FrameBroker x = new FrameBroker();
        Due.is("at first", x.tick(), 0);
        Due.is("advance", x.advance(7), 7);
        Due.is("tick", x.tick(), 7);
        Due.box(x, 0, 0, 1, 1);
        x.input(0, 0);
        x.move(0, 1, 1);
        x.lay(0, true);
        x.show();
        x.damage();
        x.close(0);
        Due.is("other calls let none pass", x.tick(), 7);
        Due.is("advance", x.advance(200), 207);
        Due.is("a refused advance", Due.answer(() -> x.advance(201)),
                "throws IllegalArgumentException");
        Due.is("tick behind it", x.tick(), 207);
        FrameBroker y = new FrameBroker();
        Due.pass(y, 100000);
        Due.is("the last tick", y.tick(), 100000);
        Due.end();
    }
}
