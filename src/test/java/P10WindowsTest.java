/** Promise 10: windows. */
public final class P10WindowsTest {
    public static void main(String[] args) {
        FrameBroker x = new FrameBroker();
        Due.is("at first", x.windows(), 0);
        for (int i = 0; i < 8; i++) {
            Due.box(x, i, 0, 1, 1);
            Due.is("windows", x.windows(), i + 1);
        }
        Due.is("a ninth", Due.answer(() -> Due.box(x, 0, 1, 1, 1)),
                "throws IllegalStateException");
        Due.is("windows behind it", x.windows(), 8);
        x.lay(2, true);
        x.move(2, 0, 0);
        Due.is("windows behind others", x.windows(), 8);
        for (int i = 0; i < 8; i++) {
            x.close(i);
            Due.is("windows", x.windows(), 7 - i);
        }
        Due.end();
    }
}
