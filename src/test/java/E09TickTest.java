/** Promise 9, its edges: the first tick and the last one. */
public final class E09TickTest {
    public static void main(String[] args) {
        Due.says("Returns the tick");
        FrameBroker x = new FrameBroker();
        Due.is("the first tick", x.tick(), 0);
        Due.is("the first tick again", x.tick(), 0);
        x.advance(1);
        Due.is("the next one", x.tick(), 1);
        Due.pass(x, 99998);
        Due.is("the last one but one", x.tick(), 99999);
        x.advance(1);
        Due.is("the last one", x.tick(), 100000);
        Due.isThrown("advance behind it", IllegalStateException.class, () -> x.advance(1));
        Due.is("the last one still", x.tick(), 100000);
        Due.end();
    }
}
