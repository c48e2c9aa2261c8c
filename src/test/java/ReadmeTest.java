/** What README.md shows under "Use" is what the class answers. */
public final class ReadmeTest {
    public static void main(String[] args) {
        PowerRails x = new PowerRails();
        x.feed(1918986604, 543236211, 1869967971, 1696608560, 808460341);
        x.feed(808460337, 908079408, 807416624, 809201518, 543243040);
        Checks.due("text(39)", x.text(39), 2);
        Checks.due("begin()", x.begin(), 1);
        Checks.due("tick(1)", x.tick(1), 1);
        Checks.due("rail(0, 7)", x.rail(0, 7), 500);
        Checks.due("peak(10)", x.peak(10), 600);
        boolean thrown = false;
        try {
            x.rail(5, 0);
        } catch (IndexOutOfBoundsException e) {
            thrown = true;
        }
        Checks.due("rail(5, 0) throws", thrown ? 1 : 0, 1);
        Checks.finish("ReadmeTest");
    }
}
