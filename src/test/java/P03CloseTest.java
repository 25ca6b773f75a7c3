/** Promise 3: close. */
public final class P03CloseTest {
    private static final Class<?> INDEX = IndexOutOfBoundsException.class;

    private static FrameBroker three() {
        FrameBroker x = new FrameBroker();
        Due.box(x, 0, 0, 3, 3);
        Due.box(x, 1, 1, 3, 3);
        Due.box(x, 2, 2, 3, 3);
        return x;
    }

    private static void one() {
        Due.isRefused("close in an empty stack", FrameBroker::new, INDEX, x -> x.close(0));
        for (int none : Due.noWindows(3)) {
            Due.isRefused("close(" + none + ")", P03CloseTest::three, INDEX, x -> x.close(none));
        }
        Due.isRefused("close once more", () -> {
            FrameBroker x = three();
            x.close(1);
            return x;
        }, INDEX, x -> x.close(1));

        FrameBroker x = three();
        Due.is("close of the middle one", x.close(1), 2);
        Due.is("windows", x.windows(), 2);
        Due.is("the place of the lower one", x.placeOf(0), 0);
        Due.is("the place of the upper one", x.placeOf(2), 1);
        Due.is("the cell shows the one below", x.at(1, 1), 0);
        Due.is("the cell shows none", x.at(3, 1), FrameBroker.NONE);
        Due.is("free", x.free(), 18);
        Due.is("close of the lowest one", x.close(0), 1);
        Due.is("close of the last one", x.close(2), 0);
        Due.is("free behind it", x.free(), 24);
        Due.is("nothing is shown", x.at(2, 2), FrameBroker.NONE);
    }

    private static void closedOutOfAFullStack() {
        FrameBroker x = new FrameBroker();
        for (int i = 0; i < 8; i++) {
            Due.box(x, i, 0, 1, 1);
        }
        Due.is("close of the lowest one", x.close(0), 7);
        Due.is("close of the topmost one", x.close(7), 6);
        for (int closed = 0; closed < 8; closed += 7) {
            int window = closed;
            Due.is("close of a closed one", Due.answer(() -> x.close(window)),
                    "throws IndexOutOfBoundsException");
        }
        for (int i = 1; i < 7; i++) {
            Due.is("the place of another", x.placeOf(i), i - 1);
        }
        Due.box(x, 0, 0, 1, 1);
        Due.is("the place of the new one", x.placeOf(8), 6);
    }

    private static void pagesAreLentBehindIt() {
        FrameBroker x = new FrameBroker();
        Due.box(x, 0, 0, 8, 6);
        Due.box(x, 0, 0, 8, 6);
        Due.box(x, 0, 0, 8, 6);
        Due.is("the lowest one has no surface", x.pagesOf(0), 0);
        x.close(1);
        Due.is("it is not lent pages while it is not seen", x.pagesOf(0), 0);
        Due.is("free", x.free(), 12);
        x.close(2);
        Due.is("it is lent pages when it is seen", x.pagesOf(0), 12);
        Due.is("free behind it", x.free(), 12);
    }

    private static void oneWithoutASurface() {
        FrameBroker x = Due.seenWithoutSurface();
        x.close(0);
        Due.is("no page comes back", x.free(), 0);
        x.close(2);
        Due.is("three pages come back", x.free(), 3);
    }

    private static void aFrameUnderWay() {
        FrameBroker x = new FrameBroker();
        x.open(0, 0, 1, 1, false, 2, 20);
        x.open(1, 0, 1, 1, false, 5, 1);
        x.advance(1);
        x.close(0);
        x.advance(1);
        Due.is("the slice goes to the other one", x.picture(1), 1);
    }

    public static void main(String[] args) {
        one();
        closedOutOfAFullStack();
        pagesAreLentBehindIt();
        oneWithoutASurface();
        aFrameUnderWay();
        Due.end();
    }
}
