/** What it is: an object is used for at most 512 calls; the last one is answered as others are. */
public final class T9CallsTest {
    private static final int CALLS = 512;

    private static FrameBroker eight() {
        FrameBroker x = new FrameBroker();
        for (int number = 0; number < 8; number++) {
            x.open(number, number % 6, 1, 1, false, 1 + number, 1);
        }
        return x;
    }

    private static void openings() {
        Due.says("512 calls of open, close, and their refusals");
        FrameBroker x = new FrameBroker();
        for (int call = 0; call < 40; call++) {
            Due.is("open", Due.box(x, call % 8, 0, 1, 1), call);
            if (call >= 7) {
                Due.is("close", x.close(call - 7), 7);
            }
        }
        for (int call = 73; call < CALLS; call++) {
            Due.isThrown("open", IllegalStateException.class, () -> Due.box(x, 0, 5, 1, 1));
        }
        FrameBroker y = new FrameBroker();
        for (int call = 0; call < CALLS - 1; call++) {
            Due.isThrown("open", IllegalArgumentException.class, () -> Due.box(y, 0, 6, 1, 1));
        }
        Due.is("open", Due.box(y, 0, 5, 1, 1), 0);
    }

    private static void changes() {
        Due.says("512 calls of lay and move");
        FrameBroker x = eight();
        for (int call = 8; call < CALLS; call++) {
            Due.is("lay", x.lay(call % 8, true), 0);
        }
        FrameBroker y = eight();
        for (int call = 8; call < CALLS; call += 2) {
            y.move(call % 8, call % 7, call % 5);
            Due.is("it, or one above it, is shown", y.at(call % 7, call % 5) >= call % 8, true);
        }
        Due.says("512 calls of advance");
        FrameBroker z = eight();
        for (int call = 8; call < CALLS - 4; call++) {
            Due.is("advance", z.advance(200), (call - 7) * 200);
        }
        Due.isThrown("advance", IllegalStateException.class, () -> z.advance(1));
        // Window 0, of the period 1 and the cost 1, has the earliest deadline at each tick.
        Due.is("picture", z.picture(0), 100000);
    }

    private static void questions() {
        Due.says("512 calls of input, show and each question");
        FrameBroker x = eight();
        for (int call = 8; call < CALLS; call += 2) {
            Due.is("input", x.input(call % 8, call % 8 % 6), call % 8);
            Due.is("show", x.show(), call == 8 ? 8 : 0);
        }
        FrameBroker y = eight();
        for (int call = 8; call < CALLS; call += 8) {
            Due.is("placeOf", y.placeOf(call / 8 % 8), call / 8 % 8);
            Due.is("isSeen", y.isSeen(call / 8 % 8), true);
            Due.is("pagesOf", y.pagesOf(call / 8 % 8), 1);
            Due.is("pace", y.pace(call / 8 % 8), 1);
            Due.is("misses", y.misses(call / 8 % 8), 0);
            Due.is("free", y.free(), 16);
            Due.is("damage", y.damage(), 8);
            Due.is("windows", y.windows(), 8);
        }
    }

    public static void main(String[] args) {
        openings();
        changes();
        questions();
        Due.end();
    }
}
