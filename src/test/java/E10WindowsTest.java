/** Promise 10, its edges: from none to 8 windows. */
public final class E10WindowsTest {
    public static void main(String[] args) {
        Due.says("Returns the number of windows");
        FrameBroker x = new FrameBroker();
        int opened = 0;
        for (int most = 0; most <= 8; most++) {
            Due.is("windows when empty", x.windows(), 0);
            for (int count = 1; count <= most; count++) {
                Due.box(x, 0, 0, 8, 6);
                Due.is("windows, with surfaces or without", x.windows(), count);
            }
            for (int count = most - 1; count >= 0; count--) {
                x.close(opened + count);
                Due.is("windows", x.windows(), count);
            }
            opened += most;
        }
        Due.is("opened ever", opened, 36);
        Due.end();
    }
}
