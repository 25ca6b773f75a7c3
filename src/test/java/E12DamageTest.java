/** Promise 12, its edges: each damage from 0 to 48. */
public final class E12DamageTest {
    public static void main(String[] args) {
        Due.says("Returns the damage");
        FrameBroker x = new FrameBroker();
        Due.is("none", x.damage(), 0);
        // A window of a whole screen, shown; above it rows and a part of a row that are not.
        Due.box(x, 0, 0, 8, 6);
        Due.is("all of an unshown one", x.damage(), 48);
        for (int cells = 1; cells <= 48; cells++) {
            FrameBroker y = new FrameBroker();
            Due.box(y, 0, 0, 8, 6);
            y.show();
            int rows = cells / 8;
            if (rows > 0) {
                Due.box(y, 0, 0, 8, rows);
            }
            if (cells % 8 > 0) {
                Due.box(y, 0, rows, cells % 8, 1);
            }
            Due.is("damage", y.damage(), cells);
            Due.is("it is still there", y.damage(), cells);
            Due.is("show", y.show(), cells);
            Due.is("damage behind it", y.damage(), 0);
        }
        Due.end();
    }
}
