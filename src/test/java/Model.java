import java.util.ArrayList;
import java.util.List;

/** The document told a second time, slowly: nothing is kept that can be worked out anew. */
final class Model {
    /** A window and its task. */
    private static final class Win {
        int number;
        int column;
        int row;
        int width;
        int height;
        boolean clear;
        int period;
        int cost;
        int pace = 1;
        int misses = 0;
        int picture = 0;
        int held = 0;
        int due;
        Integer deadline = null;
        int slices = 0;
        List<Boolean> finishedInTime = new ArrayList<>();

        int need() {
            int cells = width * height;
            return cells % 4 == 0 ? cells / 4 : cells / 4 + 1;
        }
    }

    private List<Win> stack = new ArrayList<>();
    private int ever = 0;
    private int tick = 0;
    private final int[][] shown = new int[48][];

    Model() {
        for (int i = 0; i < 48; i++) {
            shown[i] = new int[] {-1, 0};
        }
    }

    private Win top(int column, int row) {
        Win found = null;
        for (Win w : stack) {
            boolean inside = column >= w.column && column <= w.column + w.width - 1
                    && row >= w.row && row <= w.row + w.height - 1;
            if (inside && !(w.clear && (column + row) % 2 == 1)) {
                found = w;
            }
        }
        return found;
    }

    private boolean seen(Win w) {
        for (int i = 0; i < 48; i++) {
            if (top(i % 8, i / 8) == w) {
                return true;
            }
        }
        return false;
    }

    private int freePages() {
        int pages = 24;
        for (Win w : stack) {
            pages -= w.held;
        }
        return pages;
    }

    private void lose(Win w) {
        w.held = 0;
        w.picture = 0;
        gone(w);
    }

    private void gone(Win w) {
        if (w.deadline != null) {
            w.deadline = null;
            w.due = tick;
        }
    }

    private boolean lend(Win w) {
        if (freePages() < w.need()) {
            List<Win> asleep = new ArrayList<>();
            int could = freePages();
            for (Win other : stack) {
                if (other != w && other.held > 0 && !seen(other)) {
                    asleep.add(other);
                    could += other.held;
                }
            }
            if (could < w.need()) {
                return false;
            }
            while (freePages() < w.need()) {
                lose(asleep.remove(0));
            }
        }
        w.held = w.need();
        return true;
    }

    private void lendAll() {
        for (int i = stack.size() - 1; i >= 0; i--) {
            if (stack.get(i).held == 0 && seen(stack.get(i))) {
                lend(stack.get(i));
            }
        }
    }

    private Win get(int number) {
        for (Win w : stack) {
            if (w.number == number) {
                return w;
            }
        }
        throw new IndexOutOfBoundsException();
    }

    private static boolean in(int x, int low, int high) {
        return x >= low && x <= high;
    }

    private static boolean rectangle(int column, int row, int width, int height) {
        return in(column, 0, 7) && in(row, 0, 5) && in(width, 1, 8) && in(height, 1, 6)
                && column + width <= 8 && row + height <= 6;
    }

    int open(int column, int row, int width, int height, boolean clear, int period, int cost) {
        if (!rectangle(column, row, width, height) || !in(period, 1, 100) || !in(cost, 1, 20)) {
            throw new IllegalArgumentException();
        }
        if (stack.size() == 8 || ever == 40) {
            throw new IllegalStateException();
        }
        Win w = new Win();
        w.number = ever;
        w.column = column;
        w.row = row;
        w.width = width;
        w.height = height;
        w.clear = clear;
        w.period = period;
        w.cost = cost;
        w.due = tick;
        List<Win> before = stack;
        stack = new ArrayList<>(before);
        stack.add(w);
        if (!lend(w)) {
            stack = before;
            throw new IllegalStateException();
        }
        ever++;
        lendAll();
        return w.number;
    }

    int close(int window) {
        stack.remove(get(window));
        lendAll();
        return stack.size();
    }

    int move(int window, int column, int row) {
        Win w = get(window);
        if (!rectangle(column, row, w.width, w.height)) {
            throw new IllegalArgumentException();
        }
        w.column = column;
        w.row = row;
        lendAll();
        return 0;
    }

    int lay(int window, boolean isTop) {
        Win w = get(window);
        int place = stack.indexOf(w);
        stack.remove(place);
        stack.add(isTop ? stack.size() : 0, w);
        lendAll();
        return place;
    }

    int advance(int ticks) {
        if (!in(ticks, 1, 200)) {
            throw new IllegalArgumentException();
        }
        if (tick + ticks > 100000) {
            throw new IllegalStateException();
        }
        for (int i = 0; i < ticks; i++) {
            pass();
        }
        return tick;
    }

    private void pass() {
        List<Win> rising = new ArrayList<>(stack);
        rising.sort((a, b) -> a.number - b.number);
        Win drawn = null;
        for (Win w : rising) {
            if (w.held == 0 || !seen(w)) {
                gone(w);
            } else if (w.deadline == null && w.due <= tick) {
                w.slices = 0;
                w.deadline = tick + w.period * w.pace;
            }
            if (w.deadline != null && (drawn == null || w.deadline < drawn.deadline)) {
                drawn = w;
            }
        }
        if (drawn != null) {
            drawn.slices++;
        }
        tick++;
        if (drawn != null && drawn.slices == drawn.cost) {
            finish(drawn);
        }
        for (Win w : rising) {
            if (w.deadline != null && w.deadline == tick) {
                w.misses++;
                w.deadline += w.period * w.pace;
                w.pace = Math.min(8, 2 * w.pace);
                w.finishedInTime.clear();
            }
        }
    }

    private void finish(Win w) {
        w.picture++;
        w.due = w.deadline;
        w.finishedInTime.add(w.deadline >= tick);
        int n = w.finishedInTime.size();
        if (n >= 3 && w.finishedInTime.get(n - 1) && w.finishedInTime.get(n - 2)
                && w.finishedInTime.get(n - 3)) {
            w.pace = Math.max(1, w.pace / 2);
            w.finishedInTime.clear();
        }
        w.deadline = null;
    }

    int input(int column, int row) {
        int number = at(column, row);
        if (number >= 0 && get(number).held > 0) {
            Win w = get(number);
            int soon = tick + w.period / 2 + w.period % 2;
            if (w.deadline == null) {
                w.slices = 0;
                w.deadline = soon;
            } else {
                w.deadline = Math.min(w.deadline, soon);
            }
        }
        return number;
    }

    int damage() {
        int n = 0;
        for (int i = 0; i < 48; i++) {
            Win w = top(i % 8, i / 8);
            boolean same = w == null ? shown[i][0] == -1
                    : shown[i][0] == w.number && shown[i][1] == w.picture;
            n += same ? 0 : 1;
        }
        return n;
    }

    int show() {
        int n = damage();
        for (int i = 0; i < 48; i++) {
            Win w = top(i % 8, i / 8);
            shown[i] = w == null ? new int[] {-1, 0} : new int[] {w.number, w.picture};
        }
        return n;
    }

    int tick() {
        return tick;
    }

    int windows() {
        return stack.size();
    }

    int free() {
        return freePages();
    }

    int at(int column, int row) {
        if (!in(column, 0, 7) || !in(row, 0, 5)) {
            throw new IndexOutOfBoundsException();
        }
        Win w = top(column, row);
        return w == null ? -1 : w.number;
    }

    int placeOf(int window) {
        return stack.indexOf(get(window));
    }

    boolean isSeen(int window) {
        return seen(get(window));
    }

    int pagesOf(int window) {
        return get(window).held;
    }

    int picture(int window) {
        return get(window).picture;
    }

    int pace(int window) {
        return get(window).pace;
    }

    int misses(int window) {
        return get(window).misses;
    }

    int deadline(int window) {
        Win w = get(window);
        return w.deadline == null ? -1 : w.deadline;
    }
}
