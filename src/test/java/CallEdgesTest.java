/**
 * The boundaries of the calls that change an object or tell what stands: promises 6 to 14, 16, 28, 29 and 34, and
 * the refusals of Terms 4. One method for each promise; the sentence stands above it.
 */
public final class CallEdgesTest {
    /** Numbers that are no rail of two or three, whatever is cut off of them. */
    private static final int[] NO_RAILS = {-1, -2, 3, 11, 12, 31, 32, 64, 256, 65536, Integer.MAX_VALUE, Integer.MIN_VALUE};
    private static final int BEYOND = 1000001;
    private static final int NO_WHAT = 1000002;

    private static void due(String call, long got, long want) {
        Checks.due(call, got, want);
    }

    private static int rail(PowerRails x, int i, int what) {
        return Checks.rail(x, i, what);
    }

    /** Twelve rails, all up or about to be, 20 needs, 24 steps. */
    private static PowerRails full() {
        StringBuilder all = new StringBuilder();
        for (char c = 'a'; c <= 'l'; c++) {
            all.append("rail ").append(c).append(" source 9 9 0 1 9;");
        }
        for (int k = 0; k < 20; k++) {
            all.append("needs ").append(k < 10 ? 'l' : 'k').append(' ').append((char) ('a' + k % 10)).append(';');
        }
        all.append("on a;".repeat(11)).append("off l;".repeat(12)).append("wait 9;");
        return Checks.told(all.toString());
    }

    private static PowerRails busy() {
        PowerRails x = Checks.told("rail a source 100 50 16 10 50;rail b a 100 100 0 10 5;rail c b 10 10 0 1 9;"
            + "needs c a;low 80;droop 10;filter 3;fall 30;retry 2 3;seed 9;on a;on b;on c;wait 99;");
        x.begin();
        x.tick(4);
        x.ask(2, true);
        x.keep();
        Checks.tell(x, "on b;");
        Checks.feed(x, "wait 1;");
        return x;
    }

    /** "A call that is refused changes nothing." */
    private static void refusedCallsChangeNothing() {
        PowerRails x = busy();
        String before = Checks.whole(x);
        for (int i : NO_RAILS) {
            due("ask(" + i + ", false)", x.ask(i, false), -1);
            due("ask(" + i + ", true)", x.ask(i, true), -1);
            due("load(" + i + ", 5)", x.load(i, 5), -1);
            due("limit(" + i + ", 5)", x.limit(i, 5), -1);
        }
        for (int n : new int[] {0, -1, 51, 256, 65537, Integer.MAX_VALUE, Integer.MIN_VALUE}) {
            due("tick(" + n + ")", x.tick(n), -1);
        }
        for (int n : new int[] {-1, -5, 10000, 65536, Integer.MAX_VALUE, Integer.MIN_VALUE}) {
            due("load(0, " + n + ")", x.load(0, n), -1);
        }
        for (int n : new int[] {0, -1, 100000, Integer.MAX_VALUE, Integer.MIN_VALUE}) {
            due("limit(0, " + n + ")", x.limit(0, n), -1);
        }
        due("begin()", x.begin(), -2);
        due("text(21)", x.text(21), -2);
        due("text(-1)", x.text(-1), -2);
        Checks.same("refused", Checks.whole(x), before);
        due("the image, too", x.back(), 4);
        for (int k = 0; k < 34; k++) {
            x.feed(0, 0, 0, 0, 0);
        }
        before = Checks.whole(x);
        due("feed of a full tape", x.feed(1, 2, 3, 4, 5), -1);
        due("undo of nothing", x.undo(), -1);
        Checks.same("refused, too", Checks.whole(x), before);
        PowerRails none = Checks.told("rail a source 9 9 0 1 9;");
        none.tick(3);
        before = Checks.whole(none);
        due("back without an image", none.back(), -1);
        due("begin without steps", none.begin(), -1);
        Checks.same("refused here", Checks.whole(none), before);
    }

    /** "n 1 .. 50 TICKS go by: the TICK then; -2: it would be beyond 9999; NONE: no such n"; "NONE goes first, then -2". */
    private static void tick() {
        PowerRails x = Checks.told("rail a source 9999 1 0 0 9;");
        x.ask(0, false);
        due("tick(1)", x.tick(1), 1);
        due("tick(50)", x.tick(50), 51);
        due("each of them", rail(x, 0, 7), 51);
        Checks.pass(x, 9950 - 51);
        due("the tick", x.count(3), 9950);
        String before = Checks.whole(x);
        due("one beyond", x.tick(50), -2);
        Checks.same("tick beyond", Checks.whole(x), before);
        due("the last ones", x.tick(49), 9999);
        before = Checks.whole(x);
        for (int n : new int[] {1, 2, 49, 50}) {
            due("tick(" + n + ") behind the last", x.tick(n), -2);
        }
        for (int n : new int[] {0, 51, -1, Integer.MIN_VALUE, Integer.MAX_VALUE}) {
            due("tick(" + n + ") behind the last", x.tick(n), -1);
        }
        Checks.same("no ticks", Checks.whole(x), before);
        due("undone", x.undo(), 19);
        due("the tick then", x.count(3), 9950);
        due("49 again", x.tick(49), 9999);
        x = new PowerRails();
        due("ticks without rails", x.tick(50), 50);
    }

    /** "its state then (0 .. 4); NONE: no such RAIL": each state, asked on and off. */
    private static void ask() {
        PowerRails x = Checks.told("rail a source 20 10 0 0 9;fall 10;");
        int[][] states = {{0, 1}, {0, 1}, {2, 2}, {3, 3}};
        for (int k = 0; k < 4; k++) {
            due("asked off, " + k, x.ask(0, true), states[k][0]);
            x.undo();
            due("asked on, " + k, x.ask(0, false), states[k][1]);
            if (k >= 1) {
                x.tick(1);
            }
        }
        x.ask(0, true);
        x.tick(1);
        due("asked on as it falls", x.ask(0, false), 4);
        due("asked off as it falls", x.ask(0, true), 4);
        for (int i : new int[] {1, -1, 12, 32, Integer.MIN_VALUE}) {
            due("ask no rail", x.ask(i, false), -1);
        }
        x = full();
        for (int i = 0; i < 12; i++) {
            due("each of twelve", x.ask(i, false), 1);
        }
        due("a thirteenth", x.ask(12, false), -1);
        due("an object without rails", new PowerRails().ask(0, false), -1);
    }

    /** "how many STEPS; NONE: there are none; -2: it RUNS": from the first one on, its stay at 0. */
    private static void begin() {
        due("no text", new PowerRails().begin(), -1);
        due("no steps", Checks.told("rail a source 1 1 0 0 1;droop 1;").begin(), -1);
        PowerRails x = Checks.told("rail a source 9 9 0 0 1;wait 1;guard a 3;on a;");
        due("steps", x.begin(), 3);
        due("at once again", x.begin(), -2);
        x.tick(3);
        due("it stays at the guard", x.sequence(1) * 10 + x.sequence(2), 12);
        due("begin as it runs", x.begin(), -2);
        due("that changed nothing", x.sequence(1) * 10 + x.sequence(2), 12);
        x.tick(1);
        due("failed", x.sequence(0) * 100 + x.sequence(1) * 10 + x.sequence(2), 313);
        due("begin behind it", x.begin(), 3);
        due("runs from the first, stays anew", x.sequence(0) * 100 + x.sequence(1) * 10 + x.sequence(2), 100);
        x.tick(1);
        due("the wait's one tick", x.sequence(1) * 10 + x.sequence(2), 1);
        x.tick(1);
        due("the guard's first", x.sequence(1) * 10 + x.sequence(2), 11);
        x.ask(0, false);
        x.tick(2);
        due("done", x.sequence(0), 2);
        due("begin behind that", x.begin(), 3);
        due("it runs", x.sequence(0), 1);
        due("all 24", full().begin(), 24);
    }

    /** "LOAD of a RAIL becomes 0 .. 9999: what it was; NONE: no such ones." */
    private static void load() {
        PowerRails x = Checks.told("rail a source 1 1 0 999 9;rail b source 1 1 0 0 9;");
        due("of the text", x.load(0, 0), 999);
        due("least", x.load(0, 9999), 0);
        due("most", x.load(0, 7), 9999);
        due("it is", rail(x, 0, 4), 7);
        due("the other one's", rail(x, 1, 4), 0);
        due("the last one's", x.load(1, 1), 0);
        for (int n : new int[] {-1, 10000, Integer.MAX_VALUE, Integer.MIN_VALUE}) {
            due("load(0, " + n + ")", x.load(0, n), -1);
            due("load(2, " + n + ")", x.load(2, n), -1);
        }
        due("load(2, 0)", x.load(2, 0), -1);
        due("load(-1, 0)", x.load(-1, 0), -1);
        due("it stays", rail(x, 0, 4), 7);
    }

    /** "LIMIT of a RAIL becomes 1 .. 99999: what it was; NONE: no such ones." */
    private static void limit() {
        PowerRails x = Checks.told("rail a source 1 1 0 999 99999;rail b source 1 1 0 0 9;");
        due("of the text", x.limit(0, 1), 99999);
        due("least", x.limit(0, 99999), 1);
        due("most", x.limit(0, 7), 99999);
        due("it is", rail(x, 0, 5), 7);
        due("the other one's", rail(x, 1, 5), 9);
        due("the last one's", x.limit(1, 1), 9);
        for (int n : new int[] {0, -1, 100000, Integer.MAX_VALUE, Integer.MIN_VALUE}) {
            due("limit(0, " + n + ")", x.limit(0, n), -1);
            due("limit(2, " + n + ")", x.limit(2, n), -1);
        }
        due("limit(2, 1)", x.limit(2, 1), -1);
        due("limit(-1, 1)", x.limit(-1, 1), -1);
        due("it stays", rail(x, 0, 5), 7);
        // A limit of the next tick, not of the latest one.
        x = Checks.told("rail a source 10 10 0 10 10;droop 1;low 1;");
        x.ask(0, false);
        x.tick(1);
        x.limit(0, 9);
        due("in the latest tick it wasn't over", rail(x, 0, 9), 0);
        x.tick(1);
        due("nor did it droop", rail(x, 0, 7), 10);
        due("it is now", rail(x, 0, 9), 1);
        x.limit(0, 99);
        x.tick(1);
        due("so it droops", rail(x, 0, 7), 9);
        due("and isn't any more", rail(x, 0, 9), 0);
    }

    /** "IndexOutOfBoundsException: no such RAIL. NoSuchElementException: no such what", the former ahead of the latter. */
    private static void rail() {
        PowerRails x = busy();
        int[] whats = {-1, 15, 16, 32, 255, Integer.MAX_VALUE, Integer.MIN_VALUE};
        for (int i : NO_RAILS) {
            for (int what = 0; what <= 14; what++) {
                due("rail(" + i + ", " + what + ")", rail(x, i, what), BEYOND);
            }
            for (int what : whats) {
                due("rail(" + i + ", " + what + ")", rail(x, i, what), BEYOND);
            }
        }
        for (int i = 0; i < 3; i++) {
            for (int what : whats) {
                due("rail(" + i + ", " + what + ")", rail(x, i, what), NO_WHAT);
            }
        }
        int[][] told = {{-2, 100, 50, 16, 10, 50}, {0, 100, 100, 0, 10, 5}, {1, 10, 10, 0, 1, 9}};
        for (int i = 0; i < 3; i++) {
            for (int what = 0; what < 6; what++) {
                due("rail(" + i + ", " + what + ")", rail(x, i, what), told[i][what]);
            }
        }
        due("a new object has none", rail(new PowerRails(), 0, 0), BEYOND);
        x = full();
        due("the last of twelve", rail(x, 11, 1), 9);
        due("one behind", rail(x, 12, 1), BEYOND);
    }

    /** "RAILS, as bits, what 0 that a RAIL NEEDS, 1 on which it HANGS, 2 that HANG on it; NONE: no such ones." */
    private static void hangs() {
        PowerRails x = full();
        int[][] bits = {{0, 0, 0xc00}, {0x3ff, 0x3ff, 0}};
        for (int what = 0; what < 3; what++) {
            due("hangs(0, " + what + ")", x.hangs(0, what), bits[0][what]);
            due("hangs(11, " + what + ")", x.hangs(11, what), bits[1][what]);
            for (int i : new int[] {-1, 12, 32, Integer.MAX_VALUE, Integer.MIN_VALUE}) {
                due("hangs(" + i + ", " + what + ")", x.hangs(i, what), -1);
            }
        }
        for (int what : new int[] {-1, 3, Integer.MAX_VALUE, Integer.MIN_VALUE}) {
            due("hangs(0, " + what + ")", x.hangs(0, what), -1);
            due("hangs(12, " + what + ")", x.hangs(12, what), -1);
        }
        due("hangs of a new object", new PowerRails().hangs(0, 0), -1);
    }

    /** "The k-th (0 on) of those that WAIT, (row) of the ROW; -2: there are not so many; NONE: k is below 0." */
    private static void waiting() {
        PowerRails x = full();
        int[] none = {-1, -2, -12, Integer.MIN_VALUE};
        int[] many = {0, 1, 11, 12, 32, Integer.MAX_VALUE};
        for (boolean row : new boolean[] {false, true}) {
            for (int k : none) {
                due("waiting(" + k + ", " + row + ")", x.waiting(k, row), -1);
            }
            for (int k : many) {
                due("waiting(" + k + ", " + row + ") of none", x.waiting(k, row), -2);
            }
        }
        for (int i = 11; i >= 0; i--) {
            x.ask(i, false);
        }
        Checks.lined(x, "all twelve wait", false, 11, 10, 9, 8, 7, 6, 5, 4, 3, 2, 1, 0);
        due("a thirteenth", x.waiting(12, false), -2);
        due("waiting(-1, false) of twelve", x.waiting(-1, false), -1);
        x.tick(1);
        Checks.lined(x, "k and l wait on", false, 11, 10);
        x.tick(1);
        for (int i = 0; i < 12; i++) {
            x.ask(i, true);
        }
        Checks.lined(x, "all twelve in the row, what hangs on a first", true, 11, 10, 0, 1, 2, 3, 4, 5, 6, 7, 8, 9);
        due("waiting(12, true)", x.waiting(12, true), -2);
        due("waiting(-1, true) of twelve", x.waiting(-1, true), -1);
        Checks.lined(x, "none waits", false);
    }

    /** "what 0 whether it RUNS (1), is DONE (2), FAILED (3), none of these (0), 1 the STEP it is at, 2 for how many TICKS". */
    private static void sequence() {
        PowerRails x = Checks.told("rail a source 1 1 0 0 1;wait 2;guard a 2;");
        int[][] told = {{0, 0, 0}, {1, 0, 0}, {1, 0, 1}, {1, 0, 2}, {1, 1, 1}, {3, 1, 2}, {3, 1, 2}};
        for (int k = 0; k < told.length; k++) {
            for (int what = 0; what < 3; what++) {
                due("sequence(" + what + "), " + k, x.sequence(what), told[k][what]);
            }
            due("next", k == 0 ? x.begin() : x.tick(1), k == 0 ? 2 : k);
        }
        for (int what : new int[] {-1, 3, 4, Integer.MAX_VALUE, Integer.MIN_VALUE}) {
            due("sequence(" + what + ")", x.sequence(what), -1);
            due("sequence(" + what + ") of a new object", new PowerRails().sequence(what), -1);
        }
        Checks.tell(x, "rail a source 1 1 0 0 1;wait 2;");
        for (int what = 0; what < 3; what++) {
            due("behind a new text, " + what, x.sequence(what), 0);
            due("of a new object, " + what, new PowerRails().sequence(what), 0);
        }
    }

    /** "1 its PARENT isn't GOOD, 2 what it NEEDS isn't; 0: it would; -2: it doesn't WAIT; NONE: no such RAIL." */
    private static void why() {
        PowerRails x = Checks.told("rail a source 9 3 0 0 9;rail b a 9 9 0 0 9;rail c source 9 9 0 0 9;rail d c 9 9 0 0 9;"
            + "needs b c;needs c a;needs d b;fall 3;");
        for (int i = 0; i < 4; i++) {
            due("off", x.why(i), -2);
            x.ask(i, false);
        }
        int[][] told = {{0, 1, 2, 1}, {-2, 1, 2, 1}, {-2, 1, 2, 1}, {-2, 2, 0, 1}, {-2, 0, -2, 2}, {-2, -2, -2, 0},
            {-2, -2, -2, -2}};
        for (int k = 0; k < told.length; k++) {
            for (int i = 0; i < 4; i++) {
                due("why(" + i + ") in tick " + k, x.why(i), told[k][i]);
            }
            x.tick(1);
        }
        x.ask(0, true);
        x.tick(5);
        due("one that falls", x.why(0), -2);
        due("it does", rail(x, 0, 6), 4);
        for (int i : new int[] {-1, 4, 12, 32, Integer.MAX_VALUE, Integer.MIN_VALUE}) {
            due("why(" + i + ")", x.why(i), -1);
        }
        due("why of a new object", new PowerRails().why(0), -1);
    }

    /** "TOTAL of the latest TICK": what is called behind it doesn't change it. */
    private static void total() {
        due("of a new object", new PowerRails().total(), 0);
        PowerRails x = Checks.told("rail a source 10 10 0 10 99;rail b a 10 10 0 5 99;rail c source 10 10 16 1 99;");
        for (int i = 0; i < 3; i++) {
            x.ask(i, false);
        }
        due("ahead of a tick", x.total(), 0);
        x.tick(1);
        due("a and c with its charge", x.total(), 10 + 11);
        x.load(0, 500);
        x.ask(2, true);
        due("behind other calls", x.total(), 21);
        due("draws, too", rail(x, 0, 8), 10);
        x.tick(1);
        due("of the next", x.total(), 505 + 1);
        x.undo();
        due("undone", x.total(), 21);
    }

    /** "the k-th latest entry (0 the latest; 40 are kept) .. NONE: no such ones." */
    private static void log() {
        PowerRails x = Checks.told("rail a source 1 1 0 0 9;");
        due("none", x.log(0, 0), -1);
        int[] what = {0, 1, 3, 4};
        int entries = 0;
        // Round by round: it rises and is up in one tick, falls in the next, is off in the third.
        for (int round = 0; round < 25; round++) {
            x.ask(0, false);
            x.tick(1);
            x.ask(0, true);
            x.tick(2);
            entries += 4;
            int kept = Math.min(40, entries);
            due("entries", x.count(8), kept);
            for (int k = 0; k < kept; k++) {
                int old = entries - 1 - k;
                int tick = old / 4 * 3 + new int[] {1, 1, 2, 3}[old % 4];
                due("log(" + k + ", 0) of " + entries, x.log(k, 0), tick);
                due("log(" + k + ", 1) of " + entries, x.log(k, 1), 0);
                due("log(" + k + ", 2) of " + entries, x.log(k, 2), what[old % 4]);
            }
            for (int k : new int[] {-1, kept, 40, 41, 79, 80, 1 << 16, Integer.MAX_VALUE, Integer.MIN_VALUE}) {
                for (int w = 0; w < 3; w++) {
                    due("log(" + k + ", " + w + ") of " + entries, x.log(k, w), -1);
                }
            }
        }
        for (int w : new int[] {-1, 3, Integer.MAX_VALUE, Integer.MIN_VALUE}) {
            due("log(0, " + w + ")", x.log(0, w), -1);
        }
        // One more than are kept, entry by entry.
        x.ask(0, false);
        x.tick(1);
        due("the oldest one kept is two later", x.log(39, 0) * 10 + x.log(39, 2), (15 * 3 + 2) * 10 + 3);
        // A rail of the greatest number, the last tick.
        x = full();
        Checks.pass(x, 9998);
        x.ask(9, false);
        x.tick(1);
        Checks.logged(x, "in the last tick", 9999, 9, 1, 9999, 9, 0);
        x = full();
        for (int i = 0; i < 12; i++) {
            x.ask(i, false);
        }
        x.tick(2);
        Checks.logged(x, "the last rails", 2, 11, 1, 2, 10, 1, 2, 11, 0, 2, 10, 0, 1, 9, 1);
    }

    /** "0 RAILS, 1 needs, 2 STEPS, .. 8 entries of the log (40 at most), 9 what can be undone, 10 bytes of the TAPE." */
    private static void count() {
        PowerRails x = full();
        int[] first = {12, 20, 24, 0, 0, 0, 0, 0, 0, 0, 0};
        for (int what = 0; what <= 10; what++) {
            due("count(" + what + ") at first", x.count(what), first[what]);
        }
        for (int what : new int[] {-1, 11, 12, Integer.MAX_VALUE, Integer.MIN_VALUE}) {
            due("count(" + what + ")", x.count(what), -1);
            due("count(" + what + ") of a new object", new PowerRails().count(what), -1);
        }
        for (int i = 0; i < 12; i++) {
            x.ask(i, false);
        }
        due("all wait", x.count(4), 12);
        x.tick(1);
        due("two wait", x.count(4), 2);
        due("ten are good", x.count(6), 10);
        x.tick(1);
        due("all are good", x.count(6), 12);
        due("24 entries", x.count(8), 24);
        due("14 calls", x.count(9), 14);
        x.ask(0, true);
        due("three in the row", x.count(5), 3);
        due("good yet", x.count(6), 12);
        due("no trips", x.count(7), 0);
        for (int k = 0; k < 9; k++) {
            x.load(k, 10);
        }
        due("20 at most", x.count(9), 20);
        x.tick(2);
        due("all trips: a is in the row yet", x.count(7), 8);
        x.tick(50);
        due("40 entries at most", x.count(8), 40);
        Checks.feed(x, "wait 1;".repeat(100));
        due("a full tape", x.count(10), 700);
    }

    /** "An object is used for at most 512 calls": the last one of these answers as the first. */
    private static void fiveHundredAndTwelfthCall() {
        PowerRails x = new PowerRails();
        // "rail a source 5 5 0 0 9;"
        due("feed, the 1st", x.feed(0x7261696c, 0x20612073, 0x6f757263, 0x65203520, 0x35203020), 20);
        due("feed, the 2nd", x.feed(0x3020393b, 0, 0, 0, 0), 40);
        due("text, the 3rd", x.text(24), 1);
        due("ask, the 4th", x.ask(0, false), 1);
        for (int call = 5; call <= 511; call++) {
            due("tick, call " + call, x.tick(19), 19 * (call - 4));
        }
        due("undo, the 512th", x.undo(), 19);
    }

    public static void main(String[] args) {
        refusedCallsChangeNothing();
        tick();
        ask();
        begin();
        load();
        limit();
        rail();
        hangs();
        waiting();
        sequence();
        why();
        total();
        log();
        count();
        fiveHundredAndTwelfthCall();
        Checks.finish("CallEdgesTest");
    }
}
