/** Promises 31 to 34: undoing, the image, counts. */
public final class KeepTest {
    private static final String TEXT = "rail a source 1000 250 16 100 80;rail b a 1000 500 0 50 999;needs b a;"
        + "droop 150;filter 2;retry 2 4;on a;guard a 9;on b;wait 9;seed 5;";

    private static void due(String call, long got, long want) {
        Checks.due(call, got, want);
    }

    private static void same(String when, PowerRails x, String picture) {
        due(when + ", all as it was", Checks.picture(x).equals(picture) ? 1 : 0, 1);
    }

    private static int change(PowerRails x, int k) {
        switch (k % 6) {
            case 0: return x.begin();
            case 1: return x.tick(1 + k % 7);
            case 2: return x.ask(k % 2, k % 5 == 0);
            case 3: return x.load(k % 2, 10 * k);
            case 4: return x.limit(1, 10 + k);
            default: return x.tick(13);
        }
    }

    private static void undoing() {
        PowerRails x = Checks.told(TEXT);
        due("nothing to undo", x.undo(), -1);
        String[] pictures = new String[40];
        int kept = 0;
        for (int k = 0; k < 40; k++) {
            String before = Checks.picture(x);
            int was = x.count(9);
            int answer = change(x, k);
            if (answer == -1 || answer == -2) {
                due("a refused call can't be undone", x.count(9), was);
                same("behind a refused call", x, before);
            } else {
                pictures[kept] = before;
                kept++;
                due("what can be undone", x.count(9), Math.min(20, kept));
            }
        }
        due("more than 20 calls", kept > 25 ? 1 : 0, 1);
        for (int left = 19; left >= 0; left--) {
            due("undo", x.undo(), left);
            kept--;
            same("undone, " + left + " left", x, pictures[kept]);
        }
        due("the 21st latest isn't kept", x.undo(), -1);
        same("behind it", x, pictures[kept]);
    }

    private static void whatCanBeUndone() {
        PowerRails x = Checks.told(TEXT);
        due("ask off of one that is off", x.ask(0, true), 0);
        due("it can be undone", x.count(9), 1);
        due("load as it is", x.load(0, 100), 100);
        due("limit as it is", x.limit(0, 80), 80);
        due("these, too", x.count(9), 3);
        x.keep();
        x.peak(300);
        x.quiet();
        x.bestOff(60);
        x.chance(-1, 200, 9999, 0);
        x.leastLimit(0);
        x.ifLoad(0, 9999);
        x.ifOff(0);
        Checks.feed(x, "wait 1;");
        due("no other", x.count(9), 3);
        due("ask of no rail", x.ask(2, true), -1);
        due("begin", x.begin(), 4);
        due("begin refused", x.begin(), -2);
        due("ticks of one call", x.tick(50), 50);
        due("five", x.count(9), 5);
        due("together", x.undo(), 4);
        due("their tick", x.count(3), 0);
        due("begin undone", x.undo(), 3);
        due("it doesn't run", x.sequence(0), 0);
        due("the tape stays", x.count(10), 20);
    }

    private static void image() {
        PowerRails x = Checks.told(TEXT);
        due("no image", x.back(), -1);
        x.begin();
        x.tick(4);
        due("keep", x.keep(), 4);
        String kept = Checks.picture(x);
        int ahead = x.ahead(0, 50, 2);
        due("keeping leaves what can be undone", x.count(9), 2);
        x.load(0, 7);
        x.limit(0, 3);
        x.ask(0, true);
        x.tick(50);
        Checks.tell(x, "rail;");
        due("back", x.back(), 4);
        same("back", x, kept);
        due("the fault stays", x.fault(0), 1);
        due("its place, too", x.fault(1), 4);
        due("what is ahead", x.ahead(0, 50, 2), ahead);
        due("nothing to undo", x.count(9), 0);
        due("undo", x.undo(), -1);
        x.tick(9);
        due("it stays: back", x.back(), 4);
        same("back again", x, kept);
        x.tick(1);
        due("another one in its place", x.keep(), 5);
        x.tick(9);
        due("back to that", x.back(), 5);
        x.tick(2);
        x.undo();
        due("undoing leaves the image", x.back(), 5);
        x.tick(3);
        x.keep();
        x.undo();
        due("an image of what was undone", x.back(), 8);
        due("the tape stays", x.feed(0, 0, 0, 0, 0), 20);
        due("back", x.back(), 8);
        due("and is not in the image", x.count(10), 20);
    }

    private static void counts() {
        PowerRails x = Checks.told(TEXT);
        x.begin();
        x.ask(1, false);
        int[] first = {2, 1, 4, 0, 1, 0, 0, 0, 0, 2, 0};
        for (int what = 0; what <= 10; what++) {
            due("count(" + what + ")", x.count(what), first[what]);
        }
        due("count(11)", x.count(11), -1);
        due("count(-1)", x.count(-1), -1);
        x.tick(4);
        due("the tick", x.count(3), 4);
        due("a is good", x.count(6), 1);
        due("one yet waits", x.count(4), 1);
        x.tick(3);
        due("trips", x.count(7), Checks.rail(x, 0, 12) + Checks.rail(x, 1, 12));
        due("entries: a rises, a up, b rises", x.log(x.count(8) - 3, 1), 1);
        Checks.feed(x, "x");
        due("bytes", x.count(10), 20);
    }

    public static void main(String[] args) {
        undoing();
        whatCanBeUndone();
        image();
        counts();
        Checks.finish("KeepTest");
    }
}
