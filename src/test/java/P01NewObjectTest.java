/** Promise 1: no windows; the tick 0. */
public final class P01NewObjectTest {
    public static void main(String[] args) {
        FrameBroker x = new FrameBroker();
        Due.is("tick", x.tick(), 0);
        Due.is("windows", x.windows(), 0);
        Due.is("free", x.free(), 24);
        Due.is("damage", x.damage(), 0);
        for (int cell = 0; cell < 48; cell++) {
            Due.is("at cell " + cell, x.at(cell % 8, cell / 8), FrameBroker.NONE);
        }
        Due.is("show", x.show(), 0);
        Due.isRefused("close(0)", FrameBroker::new, IndexOutOfBoundsException.class,
                y -> y.close(0));

        FrameBroker other = new FrameBroker();
        Due.box(other, 0, 0, 8, 6);
        other.advance(3);
        Due.is("windows beside another object's", x.windows(), 0);
        Due.is("tick beside another object's", x.tick(), 0);
        Due.is("a later object's tick", new FrameBroker().tick(), 0);
        Due.end();
    }
}
