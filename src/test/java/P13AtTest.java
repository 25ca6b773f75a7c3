/** Promise 13: at. */
public final class P13AtTest {
    private static FrameBroker scene() {
        FrameBroker x = new FrameBroker();
        Due.box(x, 0, 0, 3, 2);
        x.open(1, 0, 4, 3, true, 1, 1);
        Due.box(x, 7, 5, 1, 1);
        return x;
    }

    private static void screen(FrameBroker x, String... rows) {
        for (int cell = 0; cell < 48; cell++) {
            char sign = rows[cell / 8].charAt(cell % 8);
            Due.is("at(" + cell % 8 + ", " + cell / 8 + ")", x.at(cell % 8, cell / 8),
                    sign == '.' ? FrameBroker.NONE : sign - '0');
        }
    }

    public static void main(String[] args) {
        FrameBroker x = scene();
        screen(x, "001.1...", "0101....", "..1.1...", "........", "........", ".......2");
        x.lay(0, true);
        screen(x, "000.1...", "0001....", "..1.1...", "........", "........", ".......2");
        x.move(1, 2, 1);
        screen(x, "000.....", "0001.1..", "..1.1...", "...1.1..", "........", ".......2");
        x.move(0, 5, 4);
        screen(x, "........", "...1.1..", "..1.1...", "...1.1..", ".....000", ".....000");
        x.lay(0, false);
        screen(x, "........", "...1.1..", "..1.1...", "...1.1..", ".....000", ".....002");
        x.close(0);
        screen(x, "........", "...1.1..", "..1.1...", "...1.1..", "........", ".......2");
        FrameBroker y = Due.seenWithoutSurface();
        Due.is("one without a surface is shown", y.at(7, 5), 0);
        for (int[] c : Due.noCells()) {
            Due.isRefused("at off the screen", P13AtTest::scene, IndexOutOfBoundsException.class,
                    z -> z.at(c[0], c[1]));
        }
        Due.end();
    }
}
