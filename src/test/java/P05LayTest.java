/** Promise 5: lay. */
public final class P05LayTest {
    private static final Class<?> INDEX = IndexOutOfBoundsException.class;

    private static FrameBroker eight() {
        FrameBroker x = new FrameBroker();
        for (int i = 0; i < 8; i++) {
            Due.box(x, 0, 0, 2, 2);
        }
        return x;
    }

    private static FrameBroker eightWithoutFive() {
        FrameBroker x = eight();
        x.close(5);
        return x;
    }

    private static void places(FrameBroker x, int... fromTheBottom) {
        for (int place = 0; place < fromTheBottom.length; place++) {
            Due.is("the place of " + fromTheBottom[place], x.placeOf(fromTheBottom[place]), place);
        }
        Due.is("windows", x.windows(), fromTheBottom.length);
    }

    private static void refused() {
        for (boolean isTop : new boolean[] {false, true}) {
            Due.isRefused("lay in an empty stack", FrameBroker::new, INDEX, x -> x.lay(0, isTop));
            for (int none : Due.noWindows(8)) {
                Due.isRefused("lay(" + none + ")", P05LayTest::eight, INDEX,
                        x -> x.lay(none, isTop));
            }
            Due.isRefused("lay of a closed one", P05LayTest::eightWithoutFive, INDEX,
                    x -> x.lay(5, isTop));
        }
    }

    private static void theOnlyOne() {
        FrameBroker x = new FrameBroker();
        Due.box(x, 0, 0, 2, 2);
        Due.is("lay of the only one", x.lay(0, true), 0);
        Due.is("lay of the only one at the bottom", x.lay(0, false), 0);
        places(x, 0);
    }

    private static void ofEight() {
        FrameBroker x = eight();
        places(x, 0, 1, 2, 3, 4, 5, 6, 7);
        Due.is("lay of the lowest one on top", x.lay(0, true), 0);
        places(x, 1, 2, 3, 4, 5, 6, 7, 0);
        Due.is("it is shown", x.at(1, 1), 0);
        Due.is("lay of the topmost one on top", x.lay(0, true), 7);
        places(x, 1, 2, 3, 4, 5, 6, 7, 0);
        Due.is("lay of the topmost one at the bottom", x.lay(0, false), 7);
        places(x, 0, 1, 2, 3, 4, 5, 6, 7);
        Due.is("the next one is shown", x.at(1, 1), 7);
        Due.is("lay of the lowest one at the bottom", x.lay(0, false), 0);
        places(x, 0, 1, 2, 3, 4, 5, 6, 7);
        Due.is("lay of the middle at the bottom", x.lay(4, false), 4);
        places(x, 4, 0, 1, 2, 3, 5, 6, 7);
        Due.is("lay of the middle on top", x.lay(2, true), 3);
        places(x, 4, 0, 1, 3, 5, 6, 7, 2);
    }

    private static void pagesAreLentBehindIt() {
        FrameBroker x = new FrameBroker();
        Due.box(x, 0, 0, 8, 6);
        Due.box(x, 0, 0, 8, 6);
        Due.box(x, 0, 0, 8, 6);
        Due.is("the lowest one has no surface", x.pagesOf(0), 0);
        x.lay(0, true);
        Due.is("raised, it takes the pages", x.pagesOf(0), 12);
        Due.is("from the lowest one", x.pagesOf(1), 0);
        Due.is("not from the next one", x.pagesOf(2), 12);
        x.lay(0, false);
        Due.is("lowered, it keeps its pages", x.pagesOf(0), 12);
        x.lay(2, false);
        // Now 2 is the lowest one, and 1 is seen.
        Due.is("the one that is seen now takes pages", x.pagesOf(1), 12);
        Due.is("again from the lowest one", x.pagesOf(2), 0);
        Due.is("and not from the next one", x.pagesOf(0), 12);
    }

    public static void main(String[] args) {
        refused();
        theOnlyOne();
        ofEight();
        pagesAreLentBehindIt();
        Due.end();
    }
}
