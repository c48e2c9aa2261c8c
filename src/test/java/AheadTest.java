/** Promises 17 to 27 and 30: rings, orders, what is ahead, what would be, loads by chance. */
public final class AheadTest {
    private static void due(String call, long got, long want) {
        Checks.due(call, got, want);
    }

    private static void ringIs(PowerRails x, int... rails) {
        for (int k = 0; k < rails.length; k++) {
            due("ring(" + k + ")", x.ring(k), rails[k]);
        }
        due("ring behind its last", x.ring(rails.length), -2);
        due("ring(12)", x.ring(12), -2);
        due("ring of the greatest int", x.ring(Integer.MAX_VALUE), -2);
        due("ring(-1)", x.ring(-1), -1);
        due("ring of the least int", x.ring(Integer.MIN_VALUE), -1);
    }

    private static String rails(String names) {
        StringBuilder all = new StringBuilder();
        for (char c : names.toCharArray()) {
            all.append("rail ").append(c).append(" source 1 1 0 0 1;");
        }
        return all.toString();
    }

    private static void rings() {
        PowerRails x = Checks.told(rails("abcd") + "needs b a;needs c b;needs d c;");
        ringIs(x);
        due("never(0)", x.never(0), 0);
        due("never(1)", x.never(1), 0);
        // The shortest one through the least, though a longer one goes by lesser numbers.
        x = Checks.told(rails("abcdefg") + "needs b c;needs c d;needs d b;needs b e;needs e b;needs f b;needs g f;");
        ringIs(x, 1, 4);
        due("never(0)", x.never(0), 2 | 4 | 8 | 16);
        due("never(1)", x.never(1), 2 | 4 | 8 | 16 | 32 | 64);
        // Of several as short the first by numbers.
        x = Checks.told(rails("abcde") + "needs a d;needs d b;needs a c;needs c e;needs e a;needs b a;");
        ringIs(x, 0, 2, 4);
        // A parent makes one too.
        x = Checks.told("rail a source 1 1 0 0 1;rail b a 1 1 0 0 1;rail c b 1 1 0 0 1;rail d source 1 1 0 0 1;needs a c;needs a d;");
        ringIs(x, 0, 2, 1);
        due("a hangs on itself", x.hangs(0, 1), 15);
        due("on a hang", x.hangs(0, 2), 7);
        due("never(0)", x.never(0), 7);
        due("never(2)", x.never(2), -1);
        due("never(-1)", x.never(-1), -1);
        due("no order", x.order(0), -2);
        due("no heat", x.heat(), -2);
        due("no such place of an order goes first", x.order(4), -1);
        due("order(-1)", x.order(-1), -1);
        x = Checks.told(rails("abc") + "needs a b;needs b c;needs c b;");
        ringIs(x, 1, 2);
        due("a lies in none", x.never(0), 6);
        due("but hangs on one", x.never(1), 7);
        // A ring of all twelve.
        StringBuilder needs = new StringBuilder(rails("abcdefghijkl"));
        for (int k = 0; k < 12; k++) {
            needs.append("needs ").append((char) ('a' + k)).append(' ').append((char) ('a' + (k + 7) % 12)).append(';');
        }
        ringIs(Checks.told(needs.toString()), 0, 7, 2, 9, 4, 11, 6, 1, 8, 3, 10, 5);
    }

    private static void orders() {
        due("heat without rails", new PowerRails().heat(), 0);
        due("order without rails", new PowerRails().order(0), -1);
        // Surges 60, 0, 100 with loads 20, 40, 10: c, a, b have 110, 90, 70; a ahead of c has 130, b ahead of a, too.
        PowerRails x = Checks.told("rail a source 999 10 96 20 9;rail b source 999 10 0 40 9;"
            + "rail c source 100 999 16 10 9;");
        due("heat", x.heat(), 110);
        due("order(0)", x.order(0), 2);
        due("order(1)", x.order(1), 0);
        due("order(2)", x.order(2), 1);
        // With a load of 60 for c, the last one has 120 at least: c may come behind nothing, a and b as they like.
        x.load(2, 60);
        due("heat by another load", x.heat(), 160);
        due("order by it (0)", x.order(0), 2);
        due("order by it (1)", x.order(1), 0);
        x.load(2, 0);
        x.load(0, 0);
        x.load(1, 1);
        due("heat without loads", x.heat(), 100);
        due("the first by numbers (0)", x.order(0), 0);
        due("b ahead of c has 101 (1)", x.order(1), 2);
        due("the first by numbers (2)", x.order(2), 1);
        due("order(3)", x.order(3), -1);
        // Its parent comes ahead whatever it costs; of equal ones the first by numbers.
        x = Checks.told("rail a source 1 1 0 500 9;rail b a 16 16 99 0 9;rail c source 1 1 0 0 9;rail d source 1 1 0 0 9;needs c d;");
        due("heat", x.heat(), 599);
        due("order(0)", x.order(0), 0);
        due("order(1)", x.order(1), 1);
        due("order(2)", x.order(2), 3);
        due("order(3)", x.order(3), 2);
        StringBuilder all = new StringBuilder();
        for (char c = 'a'; c <= 'l'; c++) {
            all.append("rail ").append(c).append(" source 16 16 ").append(c - 'a').append(" 1 9;");
        }
        x = Checks.told(all.toString());
        due("heat of twelve: the greatest surge first", x.heat(), 12);
        int[] twelve = {11, 10, 9, 8, 7, 6, 5, 4, 3, 2, 1, 0};
        for (int k = 0; k < 12; k++) {
            due("order(" + k + ") of twelve", x.order(k), twelve[k]);
        }
        // Downwards: 5 times 7 by 16.
        due("heat downwards", Checks.told("rail a source 9 7 5 1 9;").heat(), 3);
        due("heat of a ramp above its level", Checks.told("rail a source 7 9 5 1 9;").heat(), 3);
    }

    private static PowerRails sagging() {
        PowerRails x = Checks.told("rail a source 1000 500 16 100 99;rail b a 1000 1000 0 50 9999;"
            + "droop 300;filter 2;fall 400;on a;guard a 5;on b;");
        x.begin();
        return x;
    }

    /** In tick 3 b rises and takes its 50 of a, which is over so and sags again; in tick 4 it is low for the second time. */
    private static void ahead() {
        PowerRails x = sagging();
        String before = Checks.picture(x);
        int[][] a = {{0, 0, 0}, {2, 500, 550}, {3, 1000, 600}, {3, 700, 600}, {3, 400, 600}, {4, 900, 600}};
        for (int n = 0; n < a.length; n++) {
            for (int what = 0; what < 3; what++) {
                due("ahead(0, " + n + ", " + what + ")", x.ahead(0, n, what), a[n][what]);
            }
        }
        due("no trip in 3", x.ahead(0, 3, 3), 0);
        due("one in 4", x.ahead(0, 4, 3), 1);
        due("one in 300", x.ahead(0, 300, 3), 1);
        due("peak(0)", x.peak(0), 0);
        due("peak(1)", x.peak(1), 550);
        due("peak(300)", x.peak(300), 600);
        due("all stays", Checks.picture(x).equals(before) ? 1 : 0, 1);
        due("nothing to undo but begin", x.count(9), 1);
        x.tick(2);
        due("now's draw, too", x.ahead(0, 0, 2), 600);
        due("now's total, too", x.peak(0), 600);
        for (int n : new int[] {-1, 301, Integer.MAX_VALUE, Integer.MIN_VALUE}) {
            due("ahead in no such n", x.ahead(0, n, 0), -1);
            due("peak in no such n", x.peak(n), -1);
        }
        for (int i : new int[] {-1, 2, Integer.MAX_VALUE, Integer.MIN_VALUE}) {
            due("ahead of no rail", x.ahead(i, 0, 0), -1);
            due("leastLimit of no rail", x.leastLimit(i), -1);
            due("ifLoad of no rail", x.ifLoad(i, 0), -1);
            due("ifOff of no rail", x.ifOff(i), -1);
        }
        due("ahead(0, 0, 4)", x.ahead(0, 0, 4), -1);
        due("ahead(0, 0, -1)", x.ahead(0, 0, -1), -1);
        x = Checks.told("rail a source 100 100 0 10 9;rail b source 100 100 0 1 9;low 100;retry 9 1;fall 9999;");
        x.ask(0, false);
        x.tick(2);
        due("the trip behind it", Checks.rail(x, 0, 12), 1);
        due("trips in these: each second tick", x.ahead(0, 6, 3), 2);
        due("trips of the other", x.ahead(1, 300, 3), 0);
        due("all of them", x.ahead(0, 300, 3), 9);
    }

    private static void quiet() {
        PowerRails x = Checks.told("rail a source 300 1 0 0 9;rail b source 10 10 0 0 9;wait 99;wait 99;wait 99;fall 100;");
        due("at first", x.quiet(), 0);
        x.ask(0, false);
        due("it rises for 300 ticks", x.quiet(), 300);
        x.load(0, 0);
        x.undo();
        PowerRails slow = Checks.told("rail a source 301 1 0 0 9;");
        slow.ask(0, false);
        due("301 are too many", slow.quiet(), -2);
        slow.tick(1);
        due("300 are not", slow.quiet(), 300);
        x.ask(0, true);
        due("begin", x.begin(), 3);
        due("the sequence is done in the tick behind 297", x.quiet(), 298);
        x = Checks.told("rail a source 10 10 0 0 9;rail b a 10 10 0 0 9;");
        x.ask(1, false);
        due("one waits for ever", x.quiet(), -2);
        x.ask(0, false);
        due("in 2 ticks", x.quiet(), 2);
        x.tick(2);
        due("now", x.quiet(), 0);
        x.ask(0, true);
        due("both go: falls in 1 and 2, off in 3", x.quiet(), 3);
        x = Checks.told("rail a source 10 10 0 0 9;");
        x.ask(0, false);
        x.tick(1);
        x.ask(0, true);
        due("one is in the row", x.quiet(), 2);
        x = Checks.told("rail a source 100 10 0 10 9;droop 10;low 1;");
        x.ask(0, false);
        due("never at its level for long", x.quiet(), 10);
        x.tick(11);
        due("the next time", x.quiet(), 1);
        x = Checks.told("rail a source 100 100 0 10 9;retry 1 50;");
        x.ask(0, false);
        x.tick(2);
        due("it trips", Checks.rail(x, 0, 12), 1);
        x.limit(0, 99);
        due("to come again is not quiet", x.quiet(), 51);
    }

    private static void leastLimit() {
        PowerRails x = sagging();
        due("of a: b's draw when it is up with it", x.leastLimit(0), 600);
        due("of b", x.leastLimit(1), 50);
        x = Checks.told("rail a source 10 10 0 0 9;rail b source 10 10 0 999 99999;");
        due("at least 1", x.leastLimit(0), 1);
        x.ask(0, false);
        x.ask(1, false);
        due("of one without load", x.leastLimit(0), 1);
        due("of the other", x.leastLimit(1), 999);
        x.tick(1);
        x.load(1, 5);
        due("now's draw isn't ahead", x.leastLimit(1), 5);
        StringBuilder all = new StringBuilder("rail a source 1 1 0 0 1;");
        for (char c = 'b'; c <= 'l'; c++) {
            all.append("rail ").append(c).append(" a 1 1 0 0 1;");
        }
        x = Checks.told(all.toString());
        for (int i = 0; i < 12; i++) {
            x.ask(i, false);
            due("load", x.load(i, i < 10 ? 9999 : 0), 0);
        }
        due("99990", x.leastLimit(0), 99990);
        x.load(11, 9);
        due("99999", x.leastLimit(0), 99999);
        x.load(11, 10);
        due("by none", x.leastLimit(0), -2);
        // A draw in the 101st tick is too far.
        x = Checks.told("rail a source 10 10 0 100 99999;wait 99;on a;");
        x.begin();
        due("in the 100th", x.leastLimit(0), 100);
        x = Checks.told("rail a source 10 10 0 100 99999;wait 99;wait 1;on a;");
        x.begin();
        due("in the 101st", x.leastLimit(0), 1);
    }

    private static void ifLoad() {
        PowerRails x = Checks.told("rail a source 100 100 0 10 50;rail b a 100 100 0 10 20;rail c source 100 100 0 1 2;droop 30;");
        for (int i = 0; i < 3; i++) {
            x.ask(i, false);
        }
        x.tick(2);
        due("20 is not above 20", x.ifLoad(1, 20), 0);
        due("21 is", x.ifLoad(1, 21), 2);
        due("41 is for both, but b, in the row, trips no more", x.ifLoad(1, 41), 1);
        due("of a alone", x.ifLoad(0, 41), 1);
        due("of c", x.ifLoad(2, 9999), 4);
        due("0 is a load", x.ifLoad(0, 0), 0);
        due("below 0", x.ifLoad(0, -1), -1);
        due("above 9999", x.ifLoad(0, 10000), -1);
        due("load stays", Checks.rail(x, 1, 4), 10);
        // Over in its first tick, low in the one behind it.
        x = Checks.told("rail a source 10 10 0 1 5;wait 98;on a;");
        x.begin();
        due("a trip in the 100th tick", x.ifLoad(0, 9), 1);
        x = Checks.told("rail a source 10 10 0 1 5;wait 99;on a;");
        x.begin();
        due("one in the 101st", x.ifLoad(0, 9), 0);
    }

    private static void ifOff() {
        PowerRails x = Checks.told("rail a source 10 10 0 1 9;rail b a 10 10 0 1 9;rail c b 10 10 0 1 9;rail d source 9 9 0 1 9;needs d b;fall 9;");
        for (int i = 0; i < 3; i++) {
            x.ask(i, false);
        }
        x.tick(2);
        due("a is up, b too, c waits", x.ifOff(0), 7);
        due("b and c", x.ifOff(1), 6);
        due("c waits", x.ifOff(2), 4);
        due("d is off", x.ifOff(3), 0);
        x.ask(1, true);
        due("those of the row don't come there", x.ifOff(0), 1);
        due("none comes", x.ifOff(1), 0);
        x.ask(3, false);
        due("one that waits now", x.ifOff(1), 8);
        lined(x);
    }

    private static void lined(PowerRails x) {
        due("the row stays", x.waiting(0, true), 1);
        due("it has one", x.count(5), 1);
        due("d waits", x.waiting(0, false), 3);
    }

    private static void bestOff() {
        PowerRails x = Checks.told("rail a source 100 100 0 30 99;rail b source 100 100 0 50 99;rail c b 100 100 0 10 99;"
            + "rail d source 100 100 0 50 99;rail e source 100 100 0 900 999;fall 10;");
        due("none rises or is up", x.bestOff(5), -2);
        for (int i = 0; i < 4; i++) {
            x.ask(i, false);
        }
        due("none of those that wait", x.bestOff(5), -2);
        x.tick(2);
        due("in 1 tick all draw yet; the first", x.bestOff(1), 0);
        due("in 2 ticks c falls first, ahead of b", x.bestOff(2), 3);
        due("in 9 ticks b and c", x.bestOff(9), 1);
        due("bestOff(0)", x.bestOff(0), -1);
        due("bestOff(61)", x.bestOff(61), -1);
        due("bestOff(60)", x.bestOff(60), 1);
        due("of the least int", x.bestOff(Integer.MIN_VALUE), -1);
        x.ask(1, true);
        due("in the row b is up, too: but so it goes by itself", x.bestOff(60), 3);
        due("total stays", x.total(), 140);
    }

    private static void chance() {
        String text = "rail a source 10 10 0 1 9999;rail b source 10 10 0 1 9999;seed 7;";
        PowerRails x = Checks.told(text);
        x.ask(0, false);
        x.ask(1, false);
        x.tick(1);
        String before = Checks.picture(x);
        long number = 7;
        int[] loads = {1, 1};
        int greatest = 0;
        for (int n = 1; n <= 30; n++) {
            number = (number * 1103515245L + 12345) & 0x7fffffffL;
            int rail = (int) (number / 65536 % 2);
            number = (number * 1103515245L + 12345) & 0x7fffffffL;
            loads[rail] = (int) (number / 65536 % 101);
            greatest = Math.max(greatest, loads[0] + loads[1]);
            due("chance(-1, " + n + ", 100, 0)", x.chance(-1, n, 100, 0), greatest);
            due("chance(7, " + n + ", 100, 0)", x.chance(7, n, 100, 0), greatest);
        }
        due("no trips", x.chance(-1, 200, 100, 1), 0);
        due("both are good", x.chance(-1, 200, 100, 2), 3);
        due("all stays", Checks.picture(x).equals(before) ? 1 : 0, 1);
        x.limit(1, 1);
        due("b trips", x.chance(2147483647, 200, 9999, 1), 1);
        due("a stays", x.chance(2147483647, 200, 9999, 2), 1);
        due("trips of now don't count", x.count(7), 0);
        int[][] wrong = {{-2, 1, 1, 0}, {0, 0, 1, 0}, {0, 201, 1, 0}, {0, 1, 0, 0}, {0, 1, 10000, 0}, {0, 1, 1, 3},
            {0, 1, 1, -1}, {Integer.MIN_VALUE, 1, 1, 0}, {0, Integer.MIN_VALUE, 1, 0}, {0, 1, Integer.MAX_VALUE, 0}};
        for (int[] w : wrong) {
            due("chance of no such ones", x.chance(w[0], w[1], w[2], w[3]), -1);
        }
        PowerRails none = new PowerRails();
        due("without rails", none.chance(-1, 200, 9999, 0), 0);
        due("without rails, good", none.chance(5, 1, 1, 2), 0);
        // Now's total isn't behind any of these.
        x = Checks.told("rail a source 10 10 0 900 9999;");
        x.ask(0, false);
        x.tick(1);
        due("loads of 0 or 1", x.chance(0, 5, 1, 0) <= 1 ? 1 : 0, 1);
    }

    public static void main(String[] args) {
        rings();
        orders();
        ahead();
        quiet();
        leastLimit();
        ifLoad();
        ifOff();
        bestOff();
        chance();
        Checks.finish("AheadTest");
    }
}
