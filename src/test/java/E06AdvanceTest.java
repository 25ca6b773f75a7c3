/** Promise 6, its edges: 1 to 200 ticks, and none beyond the tick 100000. */
public final class E06AdvanceTest {
    private static final Class<?> ARGUMENT = IllegalArgumentException.class;

    private static void range() {
        Due.says("advance: ticks: 1 to 200; Returns the tick then");
        FrameBroker x = new FrameBroker();
        int tick = 0;
        for (int ticks = 1; ticks <= 200; ticks++) {
            tick += ticks;
            Due.is("advance(" + ticks + ")", x.advance(ticks), tick);
            Due.is("tick", x.tick(), tick);
        }
        Due.says("advance Throws IllegalArgumentException if ticks is out of range");
        for (int ticks : Due.outside(1, 200)) {
            Due.isRefused("advance(" + ticks + ")", () -> Due.asleep(1), ARGUMENT,
                    y -> y.advance(ticks));
        }
        Due.isRefused("advance(0)", () -> Due.asleep(1), ARGUMENT, y -> y.advance(0));
        Due.isRefused("advance(201)", () -> Due.asleep(1), ARGUMENT, y -> y.advance(201));
    }

    private static FrameBroker at(int tick) {
        FrameBroker x = new FrameBroker();
        x.open(0, 0, 1, 1, false, 1, 1);
        Due.pass(x, tick);
        return x;
    }

    private static void theLastTick() {
        Due.says("advance Throws IllegalStateException if the tick would be above 100000");
        for (int left : new int[] {0, 1, 2, 3, 100, 198, 199}) {
            FrameBroker x = at(100000 - left);
            for (int ticks : new int[] {left + 1, 200}) {
                if (ticks <= 200) {
                    Due.isThrown("advance(" + ticks + ") with " + left + " left",
                            IllegalStateException.class, () -> x.advance(ticks));
                    Due.is("tick", x.tick(), 100000 - left);
                    Due.is("picture", x.picture(0), 100000 - left);
                }
            }
            if (left > 0) {
                Due.is("advance of all that are left", x.advance(left), 100000);
            }
            Due.is("picture at the end", x.picture(0), 100000);
            Due.isThrown("advance(1) at the end", IllegalStateException.class, () -> x.advance(1));
        }
        FrameBroker y = at(99800);
        Due.is("advance(200) to the end", y.advance(200), 100000);
        for (int ticks : Due.outside(1, 200)) {
            Due.isThrown("advance(" + ticks + ") at the end", ARGUMENT, () -> y.advance(ticks));
        }
    }

    public static void main(String[] args) {
        range();
        theLastTick();
        Due.end();
    }
}
