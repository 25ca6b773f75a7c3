/** Long mixed runs of calls, answered by the broker and by the model alike. */
public final class ModelTest {
    private static final int RUNS = 3000;
    private static final int CALLS = 512;

    private FrameBroker x = new FrameBroker();
    private Model m = new Model();
    private final int bias;
    private long seed;

    private ModelTest(int run) {
        seed = run * 7919L + 17;
        bias = run % 6;
    }

    private int upTo(int bound) {
        seed = seed * 6364136223846793005L + 1442695040888963407L;
        return (int) ((seed >>> 33) % bound);
    }

    /** Mostly within low and high, now and then just outside. */
    private int near(int low, int high) {
        return upTo(25) == 0 ? (upTo(2) == 0 ? low - 1 : high + 1) : low + upTo(high - low + 1);
    }

    /** Mostly a number that has been given. */
    private int window() {
        return upTo(8) == 0 ? near(-1, 40) : lastNumber - upTo(Math.min(lastNumber + 2, 10));
    }

    private int lastNumber = 0;

    private void call(int n) {
        int kind = upTo(100);
        if (kind < 14) {
            open(n);
        } else if (kind < 17 + (bias == 3 ? 6 : 0)) {
            int w = window();
            same(n, "close " + w, () -> x.close(w), () -> m.close(w));
        } else if (kind < 29) {
            int w = window();
            int column = near(0, upTo(2) == 0 ? 3 : 7);
            int row = near(0, upTo(2) == 0 ? 2 : 5);
            same(n, "move " + w + " " + column + " " + row, () -> {
                x.move(w, column, row);
                return 0;
            }, () -> m.move(w, column, row));
        } else if (kind < 41) {
            int w = window();
            boolean isTop = upTo(2) == 0;
            same(n, "lay " + w + " " + isTop, () -> x.lay(w, isTop), () -> m.lay(w, isTop));
        } else if (kind < 62) {
            int ticks = upTo(10) == 0 ? near(1, 200) : 1 + upTo(bias < 3 ? 6 : 25);
            same(n, "advance " + ticks, () -> x.advance(ticks), () -> m.advance(ticks));
        } else if (kind < 72) {
            int column = near(0, 7);
            int row = near(0, 5);
            same(n, "input " + column + " " + row, () -> x.input(column, row),
                    () -> m.input(column, row));
        } else if (kind < 75) {
            same(n, "show", () -> x.show(), () -> m.show());
        } else {
            ask(n);
        }
    }

    private void open(int n) {
        boolean small = bias == 0 || bias == 3;
        int width = small ? near(1, 2) : near(1, 8);
        int height = small ? near(1, 2) : near(1, 6);
        int column = upTo(20) == 0 ? near(0, 7) : upTo(Math.max(1, Math.min(8, 9 - width)));
        int row = upTo(20) == 0 ? near(0, 5) : upTo(Math.max(1, Math.min(6, 7 - height)));
        boolean clear = upTo(3) == 0;
        int period = near(1, bias == 1 ? 100 : 12);
        int cost = near(1, bias == 2 ? 20 : 4);
        same(n, "open " + column + " " + row + " " + width + " " + height + " " + clear + " "
                + period + " " + cost,
                () -> x.open(column, row, width, height, clear, period, cost),
                () -> m.open(column, row, width, height, clear, period, cost));
    }

    private void ask(int n) {
        int w = window();
        int column = near(0, 7);
        int row = near(0, 5);
        switch (upTo(12)) {
            case 0 -> same(n, "tick", () -> x.tick(), () -> m.tick());
            case 1 -> same(n, "windows", () -> x.windows(), () -> m.windows());
            case 2 -> same(n, "free", () -> x.free(), () -> m.free());
            case 3 -> same(n, "damage", () -> x.damage(), () -> m.damage());
            case 4 -> same(n, "at", () -> x.at(column, row), () -> m.at(column, row));
            case 5 -> same(n, "placeOf " + w, () -> x.placeOf(w), () -> m.placeOf(w));
            case 6 -> same(n, "isSeen " + w, () -> x.isSeen(w), () -> m.isSeen(w));
            case 7 -> same(n, "pagesOf " + w, () -> x.pagesOf(w), () -> m.pagesOf(w));
            case 8 -> same(n, "picture " + w, () -> x.picture(w), () -> m.picture(w));
            case 9 -> same(n, "pace " + w, () -> x.pace(w), () -> m.pace(w));
            case 10 -> same(n, "misses " + w, () -> x.misses(w), () -> m.misses(w));
            default -> same(n, "deadline " + w, () -> x.deadline(w), () -> m.deadline(w));
        }
    }

    private void same(int n, String what, Due.Call ofBroker, Due.Call ofModel) {
        Object want = Due.answer(ofModel);
        Due.is("call " + n + ": " + what, Due.answer(ofBroker), want);
        if (what.startsWith("open") && want instanceof Integer number) {
            lastNumber = number;
        }
    }

    /** All that can be asked, as the last calls of a run. */
    private void askAll() {
        same(CALLS, "free", () -> x.free(), () -> m.free());
        same(CALLS, "damage", () -> x.damage(), () -> m.damage());
        for (int cell = 0; cell < 48; cell++) {
            int column = cell % 8;
            int row = cell / 8;
            same(CALLS, "at", () -> x.at(column, row), () -> m.at(column, row));
        }
        for (int back = 0; back < 10; back++) {
            int w = lastNumber - back;
            same(CALLS, "placeOf " + w, () -> x.placeOf(w), () -> m.placeOf(w));
            same(CALLS, "isSeen " + w, () -> x.isSeen(w), () -> m.isSeen(w));
            same(CALLS, "pagesOf " + w, () -> x.pagesOf(w), () -> m.pagesOf(w));
            same(CALLS, "picture " + w, () -> x.picture(w), () -> m.picture(w));
            same(CALLS, "pace " + w, () -> x.pace(w), () -> m.pace(w));
            same(CALLS, "misses " + w, () -> x.misses(w), () -> m.misses(w));
            same(CALLS, "deadline " + w, () -> x.deadline(w), () -> m.deadline(w));
        }
    }

    public static void main(String[] args) {
        for (int run = 0; run < RUNS; run++) {
            ModelTest test = new ModelTest(run);
            int calls = run % 2 == 0 ? CALLS - 120 : 1 + test.upTo(CALLS - 120);
            for (int n = 0; n < calls; n++) {
                test.call(n);
            }
            test.askAll();
        }
        Due.end();
    }
}
