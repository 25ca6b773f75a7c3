/** Promise 1, its sentence: no windows; the tick 0. */
public final class E01NewObjectTest {
    public static void main(String[] args) {
        Due.says("FrameBroker(): No windows");
        FrameBroker x = new FrameBroker();
        Due.is("windows", x.windows(), 0);
        for (int window = -2; window <= 42; window++) {
            int none = window;
            Due.isThrown("placeOf(" + none + ")", IndexOutOfBoundsException.class,
                    () -> x.placeOf(none));
        }
        for (int cell = 0; cell < 48; cell++) {
            Due.is("at", x.at(cell % 8, cell / 8), FrameBroker.NONE);
        }
        Due.is("free", x.free(), 24);
        Due.is("damage", x.damage(), 0);
        Due.says("FrameBroker(): the tick 0");
        Due.is("tick", x.tick(), 0);
        Due.is("tick of another one", new FrameBroker().tick(), 0);
        Due.is("the first tick", x.advance(1), 1);
        Due.says("The constants: NONE = -1");
        Due.is("NONE", FrameBroker.NONE, -1);
        Due.end();
    }
}
