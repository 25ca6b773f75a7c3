/** Promise 3, its edges. */
public final class E03CloseTest {
    private static void howManyAreLeft() {
        Due.says("close Returns how many are left");
        for (int step : new int[] {1, 3, 5, 7}) {
            FrameBroker x = new FrameBroker();
            for (int number = 0; number < 8; number++) {
                Due.box(x, number, 0, 1, 1);
            }
            for (int left = 7; left >= 0; left--) {
                int window = (7 - left) * step % 8;
                Due.is("close(" + window + ")", x.close(window), left);
                Due.is("windows", x.windows(), left);
                Due.is("free", x.free(), 24 - left);
                Due.is("its cell", x.at(window, 0), FrameBroker.NONE);
                Due.isThrown("close of the same", IndexOutOfBoundsException.class,
                        () -> x.close(window));
            }
        }
    }

    public static void main(String[] args) {
        Due.says("close: window: a window");
        Due.isAnsweredForEachWindow("close", (x, window) -> x.close(window));
        Due.says("close Throws IndexOutOfBoundsException if there is no such window");
        for (int none : Due.noWindows(8)) {
            Due.isRefused("close(" + none + ")", () -> Due.asleep(1, 1, 1, 1),
                    IndexOutOfBoundsException.class, x -> x.close(none));
        }
        howManyAreLeft();
        Due.end();
    }
}
