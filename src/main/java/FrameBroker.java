/**
 * A broker of frames: windows in a stack on a screen of cells, tasks that draw their frames in
 * slices by earliest deadline, and pages of a pool lent to the windows' surfaces.
 */
public final class FrameBroker {
    /** None. */
    public static final int NONE = -1;

    private static final int COLUMNS = 8;
    private static final int ROWS = 6;
    private static final int CELLS = 48;
    private static final int PAGES = 24;
    private static final int CELLS_OF_A_PAGE = 4;
    private static final int MOST_WINDOWS = 8;
    private static final int MOST_WINDOWS_EVER = 40;
    private static final int LONGEST_PERIOD = 100;
    private static final int HIGHEST_COST = 20;
    private static final int MOST_TICKS = 200;
    private static final int LAST_TICK = 100000;
    private static final int SLOWEST_PACE = 8;
    private static final int FRAMES_TO_HALVE = 3;

    private final WindowList byNumber;
    private final WindowList stack;
    private final Window[] topmost;
    private final int[] lastWindows;
    private final int[] lastPictures;
    private int opened;
    private int freePages;
    private int now;

    /** No windows; the tick 0. */
    public FrameBroker() {
        byNumber = new WindowList();
        stack = new WindowList();
        topmost = new Window[CELLS];
        lastWindows = new int[CELLS];
        lastPictures = new int[CELLS];
        for (int cell = 0; cell < CELLS; cell++) {
            lastWindows[cell] = NONE;
        }
        opened = 0;
        freePages = PAGES;
        now = 0;
    }

    // ---- windows

    /**
     * Opens a window.
     *
     * @param column 0 to 7: the leftmost one of its rectangle
     * @param row 0 to 5: the uppermost one
     * @param width 1 to 8, so that it is within the screen
     * @param height 1 to 6, so that it is within the screen
     * @param isClear whether it is clear
     * @param period 1 to 100
     * @param cost 1 to 20
     * @return its number
     * @throws IllegalArgumentException if an argument is out of range
     * @throws IllegalStateException if there are 8 windows, or there were 40, or its pages cannot
     *     be lent
     */
    public int open(int column, int row, int width, int height, boolean isClear, int period,
            int cost) throws IllegalArgumentException, IllegalStateException {
        if (!isCell(column, row) || width < 1 || height < 1
                || !fits(column, row, width, height)) {
            throw new IllegalArgumentException("the rectangle is not within the screen");
        }
        if (period < 1 || period > LONGEST_PERIOD || cost < 1 || cost > HIGHEST_COST) {
            throw new IllegalArgumentException("the period or the cost is out of range");
        }
        if (stack.count() >= MOST_WINDOWS || opened >= MOST_WINDOWS_EVER) {
            throw new IllegalStateException("there are too many windows");
        }
        Window window = new Window(opened, column, row, width, height, isClear,
                new Task(period, cost, now));
        if (!putOnTop(window)) {
            throw new IllegalStateException("its pages cannot be lent");
        }
        opened++;
        byNumber.addLast(window);
        lendToSeen();
        return window.number;
    }

    /**
     * Closes a window.
     *
     * @param window a window
     * @return how many are left
     * @throws IndexOutOfBoundsException if there is no such window
     */
    public int close(int window) throws IndexOutOfBoundsException {
        Window closed = find(window);
        stack.remove(window);
        byNumber.remove(window);
        freePages += closed.pagesHeld();
        rearrange();
        return stack.count();
    }

    /**
     * Moves a window.
     *
     * @param window a window
     * @param column so that its rectangle is within the screen
     * @param row so that its rectangle is within the screen
     * @throws IndexOutOfBoundsException if there is no such window
     * @throws IllegalArgumentException if column or row is out of range
     */
    public void move(int window, int column, int row)
            throws IndexOutOfBoundsException, IllegalArgumentException {
        Window moved = find(window);
        if (!isCell(column, row) || !fits(column, row, moved.width, moved.height)) {
            throw new IllegalArgumentException("the rectangle is not within the screen");
        }
        moved.column = column;
        moved.row = row;
        rearrange();
    }

    /**
     * Lays a window on top of the stack, or at its bottom.
     *
     * @param window a window
     * @param isTop whether on top
     * @return its place in the stack before, from the bottom
     * @throws IndexOutOfBoundsException if there is no such window
     */
    public int lay(int window, boolean isTop) throws IndexOutOfBoundsException {
        Window laid = find(window);
        int before = stack.indexOf(window);
        stack.remove(window);
        if (isTop) {
            stack.addLast(laid);
        } else {
            stack.addFirst(laid);
        }
        rearrange();
        return before;
    }

    // ---- ticks, input, showing

    /**
     * Lets ticks pass.
     *
     * @param ticks 1 to 200
     * @return the tick then
     * @throws IllegalArgumentException if ticks is out of range
     * @throws IllegalStateException if the tick would be above 100000
     */
    public int advance(int ticks) throws IllegalArgumentException, IllegalStateException {
        if (ticks < 1 || ticks > MOST_TICKS) {
            throw new IllegalArgumentException("ticks is out of range");
        }
        if (now + ticks > LAST_TICK) {
            throw new IllegalStateException("the tick would be above the last one");
        }
        for (int passed = 0; passed < ticks; passed++) {
            passTick();
        }
        return now;
    }

    /**
     * Input at a cell.
     *
     * @param column 0 to 7
     * @param row 0 to 5
     * @return the window that the cell shows; NONE if it shows none
     * @throws IndexOutOfBoundsException if there is no such cell
     */
    public int input(int column, int row) throws IndexOutOfBoundsException {
        Window window = findTopmost(column, row);
        if (window != null && window.hasSurface) {
            window.task.hurry(now);
        }
        return numberOf(window);
    }

    /**
     * Shows the screen.
     *
     * @return the damage ahead of it
     */
    public int show() {
        int before = countDamage();
        rememberScreen();
        return before;
    }

    // ---- what there is

    /**
     * Returns the tick.
     *
     * @return the tick
     */
    public int tick() {
        return now;
    }

    /**
     * Returns the number of windows.
     *
     * @return the number of windows
     */
    public int windows() {
        return stack.count();
    }

    /**
     * Returns how many pages are free.
     *
     * @return how many pages are free
     */
    public int free() {
        return freePages;
    }

    /**
     * Returns the damage.
     *
     * @return the damage
     */
    public int damage() {
        return countDamage();
    }

    /**
     * Returns the window that a cell shows.
     *
     * @param column 0 to 7
     * @param row 0 to 5
     * @return the window; NONE if it shows none
     * @throws IndexOutOfBoundsException if there is no such cell
     */
    public int at(int column, int row) throws IndexOutOfBoundsException {
        return numberOf(findTopmost(column, row));
    }

    /**
     * Returns the place of a window in the stack.
     *
     * @param window a window
     * @return from 0, the bottom
     * @throws IndexOutOfBoundsException if there is no such window
     */
    public int placeOf(int window) throws IndexOutOfBoundsException {
        return stack.indexOf(find(window).number);
    }

    /**
     * Tells whether a window is seen.
     *
     * @param window a window
     * @return whether it is
     * @throws IndexOutOfBoundsException if there is no such window
     */
    public boolean isSeen(int window) throws IndexOutOfBoundsException {
        return find(window).isOnScreen;
    }

    /**
     * Returns how many pages a window holds.
     *
     * @param window a window
     * @return how many; 0 without a surface
     * @throws IndexOutOfBoundsException if there is no such window
     */
    public int pagesOf(int window) throws IndexOutOfBoundsException {
        return find(window).pagesHeld();
    }

    /**
     * Returns the picture of a window.
     *
     * @param window a window
     * @return its number
     * @throws IndexOutOfBoundsException if there is no such window
     */
    public int picture(int window) throws IndexOutOfBoundsException {
        return find(window).framesShown;
    }

    /**
     * Returns the pace of a window.
     *
     * @param window a window
     * @return 1, 2, 4 or 8
     * @throws IndexOutOfBoundsException if there is no such window
     */
    public int pace(int window) throws IndexOutOfBoundsException {
        return find(window).task.slowness;
    }

    /**
     * Returns how many misses a window has had.
     *
     * @param window a window
     * @return how many
     * @throws IndexOutOfBoundsException if there is no such window
     */
    public int misses(int window) throws IndexOutOfBoundsException {
        return find(window).task.missed;
    }

    /**
     * Returns the deadline of the frame of a window that is under way.
     *
     * @param window a window
     * @return the tick; NONE if none is under way
     * @throws IndexOutOfBoundsException if there is no such window
     */
    public int deadline(int window) throws IndexOutOfBoundsException {
        Task task = find(window).task;
        return task.isUnderWay ? task.lastTick : NONE;
    }

    // ---- finding

    private Window find(int number) {
        Window window = byNumber.get(byNumber.indexOf(number));
        if (window == null) {
            throw new IndexOutOfBoundsException("there is no such window");
        }
        return window;
    }

    private Window findTopmost(int column, int row) {
        if (!isCell(column, row)) {
            throw new IndexOutOfBoundsException("there is no such cell");
        }
        return topmost[row * COLUMNS + column];
    }

    private static int numberOf(Window window) {
        return window == null ? NONE : window.number;
    }

    private static int pictureOf(Window window) {
        return window == null ? 0 : window.framesShown;
    }

    private static boolean isCell(int column, int row) {
        return column >= 0 && column < COLUMNS && row >= 0 && row < ROWS;
    }

    // The sizes are compared with what is left, as the sum of two arguments could overflow.
    private static boolean fits(int column, int row, int width, int height) {
        return width <= COLUMNS - column && height <= ROWS - row;
    }

    // ---- the screen

    private void rearrange() {
        lookAtScreen();
        lendToSeen();
    }

    private void lookAtScreen() {
        for (int place = 0; place < stack.count(); place++) {
            Window window = stack.get(place);
            if (window != null) {
                window.isOnScreen = false;
            }
        }
        for (int cell = 0; cell < CELLS; cell++) {
            Window window = stack.topmostOver(cell % COLUMNS, cell / COLUMNS);
            topmost[cell] = window;
            if (window != null) {
                window.isOnScreen = true;
            }
        }
    }

    private int countDamage() {
        int count = 0;
        for (int cell = 0; cell < CELLS; cell++) {
            Window window = topmost[cell];
            if (numberOf(window) != lastWindows[cell]
                    || pictureOf(window) != lastPictures[cell]) {
                count++;
            }
        }
        return count;
    }

    private void rememberScreen() {
        for (int cell = 0; cell < CELLS; cell++) {
            Window window = topmost[cell];
            lastWindows[cell] = numberOf(window);
            lastPictures[cell] = pictureOf(window);
        }
    }

    // ---- pages

    // Who else is seen is known only when the window lies on top, so it is put there first, and
    // taken away again if it gets no pages.
    private boolean putOnTop(Window window) {
        stack.addLast(window);
        lookAtScreen();
        if (lend(window)) {
            return true;
        }
        stack.remove(window.number);
        lookAtScreen();
        return false;
    }

    private void lendToSeen() {
        for (int place = stack.count() - 1; place >= 0; place--) {
            Window window = stack.get(place);
            if (window != null && window.isOnScreen && !window.hasSurface) {
                lend(window);
            }
        }
    }

    private boolean lend(Window window) {
        int needed = window.pagesNeeded();
        if (freePages + pagesOfUnseen() < needed) {
            return false;
        }
        takeBackUntilFree(needed);
        freePages -= needed;
        window.hasSurface = true;
        return true;
    }

    private int pagesOfUnseen() {
        int pages = 0;
        for (int place = 0; place < stack.count(); place++) {
            Window window = stack.get(place);
            if (window != null && window.hasSurface && !window.isOnScreen) {
                pages += window.pagesNeeded();
            }
        }
        return pages;
    }

    private void takeBackUntilFree(int needed) {
        for (int place = 0; place < stack.count() && freePages < needed; place++) {
            Window window = stack.get(place);
            if (window != null && window.hasSurface && !window.isOnScreen) {
                freePages += window.pagesNeeded();
                window.loseSurface(now);
            }
        }
    }

    // ---- a tick

    private void passTick() {
        beginFrames();
        Window drawn = mostUrgent();
        if (drawn != null) {
            drawn.task.slices++;
        }
        now++;
        if (drawn != null && drawn.task.slices >= drawn.task.cost) {
            drawn.framesShown++;
            drawn.task.finish();
        }
        countMisses();
    }

    private void beginFrames() {
        for (int place = 0; place < byNumber.count(); place++) {
            Window window = byNumber.get(place);
            if (window == null) {
                continue;
            }
            if (window.isOnScreen && window.hasSurface) {
                window.task.beginIfDue(now);
            } else {
                window.task.drop(now);
            }
        }
    }

    private Window mostUrgent() {
        Window first = null;
        for (int place = 0; place < byNumber.count(); place++) {
            Window window = byNumber.get(place);
            if (window != null && window.task.isUnderWay
                    && (first == null || window.task.lastTick < first.task.lastTick)) {
                first = window;
            }
        }
        return first;
    }

    private void countMisses() {
        for (int place = 0; place < byNumber.count(); place++) {
            Window window = byNumber.get(place);
            if (window != null && window.task.isUnderWay && window.task.lastTick == now) {
                window.task.miss();
            }
        }
    }

    /** A window: its rectangle, its surface and its task. */
    private static final class Window {
        final int number;
        int column;
        int row;
        final int width;
        final int height;
        final boolean isClear;
        final Task task;
        boolean isOnScreen;
        boolean hasSurface;
        int framesShown;

        Window(int number, int column, int row, int width, int height, boolean isClear,
                Task task) {
            this.number = number;
            this.column = column;
            this.row = row;
            this.width = width;
            this.height = height;
            this.isClear = isClear;
            this.task = task;
            isOnScreen = false;
            hasSurface = false;
            framesShown = 0;
        }

        boolean covers(int cellColumn, int cellRow) {
            return cellColumn >= column && cellColumn < column + width
                    && cellRow >= row && cellRow < row + height
                    && (!isClear || (cellColumn + cellRow) % 2 == 0);
        }

        int pagesNeeded() {
            return (width * height + CELLS_OF_A_PAGE - 1) / CELLS_OF_A_PAGE;
        }

        int pagesHeld() {
            return hasSurface ? pagesNeeded() : 0;
        }

        void loseSurface(int tickOfLoss) {
            hasSurface = false;
            framesShown = 0;
            task.drop(tickOfLoss);
        }
    }

    /** The task of a window: its frame under way, if there is one, and when the next is due. */
    private static final class Task {
        final int period;
        final int cost;
        int slowness;
        int missed;
        int inTime;
        int nextDue;
        boolean isUnderWay;
        int slices;
        int lastTick;

        Task(int period, int cost, int tickOfOpening) {
            this.period = period;
            this.cost = cost;
            slowness = 1;
            missed = 0;
            inTime = 0;
            nextDue = tickOfOpening;
            isUnderWay = false;
            slices = 0;
            lastTick = tickOfOpening;
        }

        void begin(int deadlineOfFrame) {
            isUnderWay = true;
            slices = 0;
            lastTick = deadlineOfFrame;
        }

        void beginIfDue(int tickNow) {
            if (!isUnderWay && nextDue <= tickNow) {
                begin(tickNow + period * slowness);
            }
        }

        void drop(int tickNow) {
            if (isUnderWay) {
                isUnderWay = false;
                nextDue = tickNow;
            }
        }

        void hurry(int tickNow) {
            int soon = tickNow + (period + 1) / 2;
            if (!isUnderWay) {
                begin(soon);
            } else if (soon < lastTick) {
                lastTick = soon;
            }
        }

        // A frame that is finished is always in time: each deadline is set ahead of the tick, and
        // a miss puts it off at the very tick at which it is reached.
        void finish() {
            isUnderWay = false;
            nextDue = lastTick;
            inTime++;
            if (inTime >= FRAMES_TO_HALVE) {
                inTime = 0;
                slowness = slowness > 1 ? slowness / 2 : 1;
            }
        }

        void miss() {
            missed++;
            inTime = 0;
            lastTick += period * slowness;
            slowness = slowness < SLOWEST_PACE ? slowness * 2 : SLOWEST_PACE;
        }
    }

    /** Windows in an order, as many as there can be at a time. */
    private static final class WindowList {
        private final Window[] items;
        private int size;

        WindowList() {
            items = new Window[MOST_WINDOWS];
            size = 0;
        }

        int count() {
            return size;
        }

        Window get(int index) {
            return index >= 0 && index < items.length ? items[index] : null;
        }

        int indexOf(int number) {
            for (int index = 0; index < items.length; index++) {
                Window window = items[index];
                if (window != null && window.number == number) {
                    return index;
                }
            }
            return NONE;
        }

        Window topmostOver(int column, int row) {
            for (int index = size - 1; index >= 0; index--) {
                Window window = get(index);
                if (window != null && window.covers(column, row)) {
                    return window;
                }
            }
            return null;
        }

        void addLast(Window window) {
            if (size >= 0 && size < items.length) {
                items[size] = window;
                size++;
            }
        }

        void addFirst(Window window) {
            if (size >= items.length) {
                return;
            }
            for (int index = size; index > 0; index--) {
                items[index] = items[index - 1];
            }
            items[0] = window;
            size++;
        }

        void remove(int number) {
            int found = indexOf(number);
            if (found < 0) {
                return;
            }
            for (int index = found; index + 1 < items.length; index++) {
                items[index] = items[index + 1];
            }
            items[items.length - 1] = null;
            size--;
        }
    }
}
