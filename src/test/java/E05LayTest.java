/** Promise 5, its edges: each place of a window in each size of a stack. */
public final class E05LayTest {
    private static FrameBroker stack(int count) {
        FrameBroker x = new FrameBroker();
        for (int number = 0; number < count; number++) {
            Due.box(x, 0, 0, 1, 1);
        }
        return x;
    }

    private static void each(boolean isTop) {
        for (int count = 1; count <= 8; count++) {
            for (int window = 0; window < count; window++) {
                FrameBroker x = stack(count);
                Due.is("lay(" + window + ") of " + count, x.lay(window, isTop), window);
                for (int other = 0; other < count; other++) {
                    int place = other;
                    if (other == window) {
                        place = isTop ? count - 1 : 0;
                    } else if (isTop && other > window) {
                        place = other - 1;
                    } else if (!isTop && other < window) {
                        place = other + 1;
                    }
                    Due.is("the place of " + other, x.placeOf(other), place);
                }
                Due.is("windows", x.windows(), count);
                Due.is("lay again", x.lay(window, isTop), isTop ? count - 1 : 0);
            }
        }
    }

    public static void main(String[] args) {
        Due.says("lay: window: a window");
        Due.isAnsweredForEachWindow("lay on top", (x, window) -> x.lay(window, true));
        Due.isAnsweredForEachWindow("lay at the bottom", (x, window) -> x.lay(window, false));
        Due.says("lay Throws IndexOutOfBoundsException if there is no such window");
        for (int none : Due.noWindows(6)) {
            Due.isRefused("lay(" + none + ", true)", () -> Due.asleep(1, 1, 1, 1),
                    IndexOutOfBoundsException.class, x -> x.lay(none, true));
            Due.isRefused("lay(" + none + ", false)", () -> Due.asleep(1, 1, 1, 1),
                    IndexOutOfBoundsException.class, x -> x.lay(none, false));
        }
        Due.says("lay Returns its place in the stack before, from the bottom; on top");
        each(true);
        Due.says("lay Returns its place in the stack before, from the bottom; at its bottom");
        each(false);
        Due.end();
    }
}
