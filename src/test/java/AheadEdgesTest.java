/**
 * The boundaries of rings, orders, what is ahead, what would be and of chance: Terms 3, promises 17 to 27 and 30.
 * One method for each promise or sentence; the sentence stands above it.
 */
public final class AheadEdgesTest {
    private static final int[] NO_RAILS = {-1, -2, 12, 13, 31, 32, 64, Integer.MAX_VALUE, Integer.MIN_VALUE};

    private static void due(String call, long got, long want) {
        Checks.due(call, got, want);
    }

    /** So many rails of the source, at once up, of limits that none passes. */
    private static String rails(int n, int load) {
        StringBuilder all = new StringBuilder();
        for (int i = 0; i < n; i++) {
            all.append("rail ").append((char) ('a' + i)).append(" source 1 1 0 ").append(load).append(" 99999;");
        }
        return all.toString();
    }

    private static PowerRails asked(String text, int... rails) {
        PowerRails x = Checks.told(text);
        for (int i : rails) {
            x.ask(i, false);
        }
        return x;
    }

    private static void ringIs(PowerRails x, int... rails) {
        for (int k = 0; k < rails.length; k++) {
            due("ring(" + k + ")", x.ring(k), rails[k]);
        }
        for (int k : new int[] {rails.length, rails.length + 1, 12, 13, 32, Integer.MAX_VALUE}) {
            due("ring(" + k + ")", x.ring(k), -2);
        }
        for (int k : new int[] {-1, -2, Integer.MIN_VALUE}) {
            due("ring(" + k + ")", x.ring(k), -1);
        }
    }

    /** "-2: there are not so many, there is none; NONE: i is below 0": no ring, the shortest, the longest. */
    private static void ring() {
        ringIs(new PowerRails());
        ringIs(Checks.told(rails(12, 0)));
        ringIs(Checks.told(rails(3, 0) + "needs c b;needs b a;needs c a;"));
        ringIs(Checks.told(rails(2, 0) + "needs b a;needs a b;"), 0, 1);
        ringIs(Checks.told(rails(12, 0) + "needs l k;needs k l;"), 10, 11);
        StringBuilder all = new StringBuilder(rails(1, 0));
        for (int i = 1; i < 12; i++) {
            all.append("rail ").append((char) ('a' + i)).append(' ').append((char) ('a' + i - 1)).append(" 1 1 0 0 9;");
        }
        ringIs(Checks.told(all + "needs a l;"), 0, 11, 10, 9, 8, 7, 6, 5, 4, 3, 2, 1);
        ringIs(Checks.told(all + "needs b l;"), 1, 11, 10, 9, 8, 7, 6, 5, 4, 3, 2);
        ringIs(Checks.told(all + "needs a l;needs a c;"), 0, 2, 1);
    }

    /** "those through the least RAIL that lies in one, the shortest one .., of several the first by numbers". */
    private static void firstRing() {
        // The least rail of a long one goes ahead of a shorter one elsewhere.
        ringIs(Checks.told(rails(6, 0) + "needs e f;needs f e;needs b c;needs c d;needs d b;"), 1, 2, 3);
        // Of two as long, where they part.
        ringIs(Checks.told(rails(5, 0) + "needs a e;needs e d;needs a b;needs b d;needs d a;"), 0, 1, 3);
        ringIs(Checks.told(rails(5, 0) + "needs a b;needs b e;needs b c;needs c a;needs e a;"), 0, 1, 2);
        // The lesser number first leads a longer way round.
        ringIs(Checks.told(rails(5, 0) + "needs a b;needs b c;needs c a;needs a d;needs d a;"), 0, 3);
        ringIs(Checks.told(rails(5, 0) + "needs a b;needs b c;needs c a;needs a d;needs d e;needs e a;"), 0, 1, 2);
        // A lesser one that only hangs on a ring lies in none.
        ringIs(Checks.told(rails(3, 0) + "needs a c;needs b c;needs c b;"), 1, 2);
    }

    /** "none of these comes up ever." */
    private static void ringsNeverComeUp() {
        PowerRails x = asked(rails(3, 1) + "needs a b;needs b a;needs c b;", 0, 1, 2);
        x.tick(50);
        Checks.lined(x, "all wait on", false, 0, 1, 2);
        due("not quiet", x.quiet(), -2);
        due("nor in 300 ticks", x.ahead(0, 300, 0), 1);
    }

    /** "RAILS that lie in a RING (what 0), that HANG on one that does, or lie in one (1), as bits; NONE for another what." */
    private static void never() {
        PowerRails x = Checks.told(rails(12, 0) + "needs a b;needs b c;needs c b;needs d a;needs e f;needs k l;needs l k;needs g l;");
        due("never(0)", x.never(0), 2 | 4 | 1 << 10 | 1 << 11);
        due("never(1)", x.never(1), 1 | 2 | 4 | 8 | 1 << 6 | 1 << 10 | 1 << 11);
        PowerRails none = Checks.told(rails(2, 0) + "needs a b;");
        due("none", none.never(0) + none.never(1), 0);
        for (int what : new int[] {-1, 2, 3, Integer.MAX_VALUE, Integer.MIN_VALUE}) {
            due("never(" + what + ")", x.never(what), -1);
            due("never(" + what + ") of none", none.never(what), -1);
        }
        due("of a new object", new PowerRails().never(0) + new PowerRails().never(1), 0);
    }

    /** "-2: there is none (a RING); NONE: no such i": NONE first; "0 without RAILS". */
    private static void orderAndHeat() {
        int[] noPlaces = {-1, 2, 12, 32, Integer.MAX_VALUE, Integer.MIN_VALUE};
        PowerRails ring = Checks.told(rails(2, 5) + "needs a b;needs b a;");
        PowerRails free = Checks.told(rails(2, 5));
        for (int i : noPlaces) {
            due("order(" + i + ") of a ring", ring.order(i), -1);
            due("order(" + i + ")", free.order(i), -1);
            due("order(" + i + ") of a new object", new PowerRails().order(i), -1);
        }
        due("order(0) of a ring", ring.order(0), -2);
        due("order(1) of a ring", ring.order(1), -2);
        due("heat of a ring", ring.heat(), -2);
        due("order(0) of a new object", new PowerRails().order(0), -1);
        due("heat of a new object", new PowerRails().heat(), 0);
        // A ring beside rails that are free of it: none, all the same.
        ring = Checks.told(rails(4, 5) + "needs a b;needs b a;");
        due("order of a ring and others", ring.order(3), -2);
        due("heat of these", ring.heat(), -2);
        PowerRails x = Checks.told(rails(12, 0));
        due("heat without loads", x.heat(), 0);
        for (int i = 0; i < 12; i++) {
            due("order(" + i + ") without loads", x.order(i), i);
        }
        due("a thirteenth", x.order(12), -1);
        x = Checks.told(rails(3, 0) + "needs a b;needs b c;");
        for (int i = 0; i < 3; i++) {
            due("order(" + i + ") of a chain without loads", x.order(i), 2 - i);
        }
    }

    /** "CHARGE times RAMP (LEVEL, if that is less) by 16, downwards"; "the greatest of ..". */
    private static void heat() {
        int[][] all = {{9999, 9999, 99, 0, 61868}, {9999, 1, 15, 0, 0}, {9999, 1, 16, 0, 1}, {5, 9999, 16, 3, 8},
            {9999, 5, 16, 3, 8}, {5, 5, 16, 3, 8}, {31, 31, 1, 0, 1}, {32, 33, 1, 0, 2}, {1, 1, 0, 999, 999}};
        for (int[] r : all) {
            PowerRails x = Checks.told("rail a source " + r[0] + " " + r[1] + " " + r[2] + " " + r[3] + " 1;");
            due("heat of level " + r[0] + ", ramp " + r[1] + ", charge " + r[2], x.heat(), r[4]);
            due("its order", x.order(0), 0);
        }
        PowerRails x = Checks.told(rails(12, 999));
        due("of twelve loads", x.heat(), 12 * 999);
        for (int i = 0; i < 12; i++) {
            x.load(i, 9999);
        }
        due("of the greatest loads", x.heat(), 12 * 9999);
        // The greatest one isn't the last one: a surge of 100 ahead of all, whatever comes behind it.
        x = Checks.told("rail a source 100 100 16 1 9;rail b a 1 1 0 1 9;rail c b 1 1 0 1 9;");
        due("the first one's", x.heat(), 101);
        StringBuilder twelve = new StringBuilder("rail a source 100 100 16 1 9;");
        for (int i = 1; i < 12; i++) {
            twelve.append("rail ").append((char) ('a' + i)).append(" a 1 1 0 1 9;");
        }
        due("the first one's of twelve", Checks.told(twelve.toString()).heat(), 101);
        // Ahead of what? "of several the first by numbers": c needs to come first, a and b as they like.
        x = Checks.told("rail a source 9 9 0 5 9;rail b source 9 9 0 5 9;rail c source 96 96 16 5 9;");
        due("heat", x.heat(), 101);
        due("order(0)", x.order(0), 2);
        due("order(1)", x.order(1), 0);
        due("order(2)", x.order(2), 1);
        // At a heat that allows it, numbers go first.
        x = Checks.told("rail a source 9 9 0 5 9;rail b source 9 9 0 5 9;rail c source 5 5 16 5 9;rail d c 90 90 16 0 9;");
        due("d behind c", x.heat(), 95);
        int[] best = {2, 3, 0, 1};
        for (int i = 0; i < 4; i++) {
            due("order(" + i + ")", x.order(i), best[i]);
        }
        x.load(1, 90);
        due("by b's load", x.heat(), 100);
        int[] then = {0, 2, 3, 1};
        for (int i = 0; i < 4; i++) {
            due("order(" + i + ") by it", x.order(i), then[i]);
        }
    }

    /** "AS IT GOES in n 0 .. 300 TICKS, of a RAIL what 0 .. 3 ..; NONE: no such ones". */
    private static void ahead() {
        PowerRails x = asked("rail a source 1000 1 0 500 400;droop 3;low 1;wait 99;wait 99;wait 99;wait 2;off a;", 0);
        x.tick(5);
        x.begin();
        for (int n : new int[] {0, 1, 299}) {
            due("state in " + n, x.ahead(0, n, 0), 2);
            due("volts in " + n, x.ahead(0, n, 1), 5 + n);
            due("draw in " + n, x.ahead(0, n, 2), (5 + n) / 2);
            due("trips in " + n, x.ahead(0, n, 3), 0);
        }
        due("in 300 it is asked off", x.ahead(0, 300, 0), 4);
        due("volts in 300", x.ahead(0, 300, 1), 305);
        String before = Checks.whole(x);
        for (int n : new int[] {-1, 301, 1000, Integer.MAX_VALUE, Integer.MIN_VALUE}) {
            for (int what = 0; what < 4; what++) {
                due("ahead(0, " + n + ", " + what + ")", x.ahead(0, n, what), -1);
            }
        }
        for (int what : new int[] {-1, 4, 5, Integer.MAX_VALUE, Integer.MIN_VALUE}) {
            due("ahead(0, 0, " + what + ")", x.ahead(0, 0, what), -1);
        }
        for (int i : new int[] {-1, 1, 12, 32, Integer.MIN_VALUE}) {
            due("ahead(" + i + ", 0, 0)", x.ahead(i, 0, 0), -1);
        }
        Checks.same("what is ahead", Checks.whole(x), before);
        // "(now's, too)": the greatest is behind it already.
        x = asked("rail a source 10 10 16 5 99;", 0);
        due("not yet", x.ahead(0, 0, 2), 0);
        x.tick(1);
        due("now's", x.ahead(0, 0, 2), 15);
        due("and in 300", x.ahead(0, 300, 2), 15);
        x.tick(1);
        due("gone", x.ahead(0, 300, 2), 5);
    }

    /** "3 how often it TRIPS in these": not those behind it. */
    private static void tripsAhead() {
        PowerRails x = asked("rail a source 100 100 0 10 5;rail b source 1 1 0 0 9;low 100;droop 1;fall 9999;retry 9 1;", 0, 1);
        due("none in 1", x.ahead(0, 1, 3), 0);
        due("one in 2", x.ahead(0, 2, 3), 1);
        x.tick(5);
        due("two behind it", Checks.rail(x, 0, 12), 2);
        due("none in 0", x.ahead(0, 0, 3), 0);
        // Off in tick 6, up in 7, low in 8; so each third tick, ten trips in all.
        due("none in 2, then", x.ahead(0, 2, 3), 0);
        due("one in 3", x.ahead(0, 3, 3), 1);
        due("eight in all", x.ahead(0, 300, 3), 8);
        due("none of the other", x.ahead(1, 300, 3), 0);
    }

    /** "The greatest TOTAL AS IT GOES in n 0 .. 300 TICKS (now's, too); NONE: no such n." */
    private static void peak() {
        due("of a new object", new PowerRails().peak(0) + new PowerRails().peak(300), 0);
        PowerRails x = asked("rail a source 1000 1 0 500 999;wait 99;wait 99;wait 99;wait 2;off a;", 0);
        x.tick(7);
        x.begin();
        for (int n : new int[] {0, 1, 2, 150, 299, 300}) {
            due("peak(" + n + ")", x.peak(n), (7 + Math.min(n, 299)) / 2);
        }
        for (int n : new int[] {-1, 301, Integer.MAX_VALUE, Integer.MIN_VALUE}) {
            due("peak(" + n + ")", x.peak(n), -1);
            due("peak(" + n + ") of a new object", new PowerRails().peak(n), -1);
        }
        x.load(0, 0);
        due("now's yet", x.peak(300), 3);
        x = asked("rail a source 1 1 0 9 999;wait 99;wait 99;wait 99;wait 2;on a;");
        x.begin();
        due("in the 300th", x.peak(300), 9);
        due("not in the 299th", x.peak(299), 0);
        x.undo();
        due("undone", x.peak(300), 0);
    }

    /** "QUIET: none WAITS, RISES, FALLS, none is UP with less than LEVEL, the ROW is empty, ..": each by itself. */
    private static void quietWhen() {
        due("a new object", new PowerRails().quiet(), 0);
        PowerRails x = Checks.told("rail a source 20 10 0 0 9;rail b a 10 10 0 0 9;fall 10;");
        due("all are off", x.quiet(), 0);
        x.ask(1, false);
        due("one waits, for ever", x.quiet(), -2);
        x.ask(1, true);
        x.ask(0, false);
        due("one waits, rises, is up", x.quiet(), 2);
        x.tick(1);
        due("one rises", x.quiet(), 1);
        x.tick(1);
        due("up at its level", x.quiet(), 0);
        x.ask(0, true);
        due("in the row, falls, is off", x.quiet(), 3);
        x.tick(1);
        due("the row is empty, it falls", x.quiet(), 2);
        x.tick(2);
        due("off", x.quiet(), 0);
        x = asked("rail a source 20 10 0 9 8;droop 1;low 1;", 0);
        x.tick(3);
        due("up with 1 less", Checks.rail(x, 0, 7), 19);
        due("its level is next", x.quiet(), 1);
        x = asked("rail a source 100 100 0 9 1;droop 10;low 1;", 0);
        x.tick(2);
        x.load(0, 99);
        due("up with less in 8 ticks more, without volts in the 9th, off", x.quiet(), 10);
        x = Checks.told("wait 5;");
        x.begin();
        due("the sequence runs", x.quiet(), 6);
        x.tick(5);
        due("yet", x.quiet(), 1);
        x.tick(1);
        due("it is done", x.quiet(), 0);
        x = Checks.told("rail a source 1 1 0 0 1;guard a 5;");
        x.begin();
        due("it fails in the fifth", x.quiet(), 5);
        x.tick(5);
        due("it failed", x.quiet(), 0);
        x = asked("rail a source 100 100 0 9 5;fall 100;retry 1 7;", 0);
        x.tick(3);
        due("off", Checks.rail(x, 0, 6), 0);
        due("to come again: up in 7, over, but at its level", x.quiet(), 7);
        x.ask(0, true);
        due("no more", x.quiet(), 0);
    }

    /** "In how many TICKS 0 .. 300 AS IT GOES it is QUIET; -2: in none of these." */
    private static void quietInThreeHundred() {
        for (int level = 299; level <= 302; level++) {
            PowerRails x = asked("rail a source " + level + " 1 0 0 1;", 0);
            due("level " + level, x.quiet(), level <= 300 ? level : -2);
            x.tick(1);
            due("level " + level + ", a tick later", x.quiet(), level <= 301 ? level - 1 : -2);
            x.tick(50);
            due("level " + level + ", 50 later", x.quiet(), level - 51);
        }
    }

    /** "The least LIMIT 1 .. 99999 of a RAIL .. never OVER AS IT GOES in 100 TICKS; -2: by none; NONE: no such RAIL." */
    private static void leastLimit() {
        for (int when = 98; when <= 101; when++) {
            StringBuilder steps = new StringBuilder("wait " + Math.min(when - 1, 99) + ";");
            for (int k = 99; k < when - 1; k++) {
                steps.append("wait 1;");
            }
            PowerRails x = Checks.told("rail a source 1 1 0 50 1;" + steps + "on a;");
            x.begin();
            due("drawn first in tick " + when, x.leastLimit(0), when <= 100 ? 50 : 1);
        }
        for (int load = 0; load <= 2; load++) {
            due("load " + load, asked("rail a source 1 1 0 " + load + " 99;", 0).leastLimit(0), Math.max(1, load));
        }
        PowerRails x = asked("rail a source 1 1 0 0 1;rail b a 1 1 0 0 99999;rail c a 1 1 0 0 99999;rail d a 1 1 0 0 99999;"
            + "rail e a 1 1 0 0 99999;rail f a 1 1 0 0 99999;rail g a 1 1 0 0 99999;rail h a 1 1 0 0 99999;"
            + "rail i a 1 1 0 0 99999;rail j a 1 1 0 0 99999;rail k a 1 1 0 0 99999;", 0, 1, 2, 3, 4, 5, 6, 7, 8, 9, 10);
        for (int i = 1; i <= 10; i++) {
            x.load(i, 9999);
        }
        for (int load = 8; load <= 10; load++) {
            x.load(0, load);
            due("99990 and " + load, x.leastLimit(0), load <= 9 ? 99990 + load : -2);
        }
        due("of one of them", x.leastLimit(10), 9999);
        for (int i : new int[] {-1, 11, 12, 32, Integer.MAX_VALUE, Integer.MIN_VALUE}) {
            due("leastLimit(" + i + ")", x.leastLimit(i), -1);
        }
        due("of a new object", new PowerRails().leastLimit(0), -1);
        x = asked("rail a source 10 10 16 5 99;", 0);
        x.tick(1);
        due("now's draw", Checks.rail(x, 0, 8), 15);
        due("isn't in these", x.leastLimit(0), 5);
        // By its own limit it would trip; all else is as it is: what limits its parent stays.
        x = asked("rail a source 100 100 0 0 5;rail b a 100 100 0 10 1;low 100;droop 1;", 0, 1);
        due("b draws in one tick, and in the next, when a is low", x.leastLimit(1), 10);
        due("a", x.leastLimit(0), 10);
        due("limits stay", Checks.rail(x, 1, 5), 1);
        // Each limit below it is passed, it itself isn't.
        x = asked("rail a source 100 30 20 70 9999;low 1;", 0);
        int least = x.leastLimit(0);
        due("the surge of its third tick", least, 70 * 90 / 100 + 20 * 30 / 16);
        for (int limit = least - 1; limit <= least; limit++) {
            x.limit(0, limit);
            int over = 0;
            for (int t = 0; t < 100; t++) {
                x.tick(1);
                over += Checks.rail(x, 0, 9);
            }
            due("ticks over with " + limit, over > 0 ? 1 : 0, limit < least ? 1 : 0);
            x = asked("rail a source 100 30 20 70 9999;low 1;", 0);
        }
    }

    /** "RAILS, as bits, that TRIP AS IT GOES in 100 TICKS, if LOAD of a RAIL were n 0 .. 9999 from now on; NONE". */
    private static void ifLoad() {
        for (int when = 98; when <= 100; when++) {
            // On, up and over in that tick; low, so it trips, in the next.
            PowerRails x = Checks.told("rail a source 10 10 0 0 5;wait " + (when - 1) + ";on a;");
            x.begin();
            due("trips in tick " + (when + 1), x.ifLoad(0, 6), when + 1 <= 100 ? 1 : 0);
            due("not over", x.ifLoad(0, 5), 0);
        }
        PowerRails x = asked(rails(12, 0), 0, 11);
        x.limit(11, 9998);
        x.limit(0, 1);
        x.tick(1);
        due("the greatest load", x.ifLoad(11, 9999), 1 << 11);
        due("one less", x.ifLoad(11, 9998), 0);
        due("no load", x.ifLoad(0, 0), 0);
        due("of a", x.ifLoad(0, 2), 1);
        for (int n : new int[] {-1, 10000, Integer.MAX_VALUE, Integer.MIN_VALUE}) {
            due("ifLoad(0, " + n + ")", x.ifLoad(0, n), -1);
        }
        for (int i : NO_RAILS) {
            due("ifLoad(" + i + ", 0)", x.ifLoad(i, 0), -1);
        }
        x.load(0, 2);
        x.tick(2);
        due("it tripped", Checks.rail(x, 0, 12), 1);
        due("what is behind doesn't count", x.ifLoad(0, 2), 0);
        due("of a new object", new PowerRails().ifLoad(0, 0), -1);
        // By the budget one that draws nothing trips: the bit is its own.
        x = asked("rail a source 1 1 0 1 99;rail b source 1 1 0 0 99;budget 5;", 0);
        x.tick(1);
        x.ask(1, false);
        due("within", x.ifLoad(0, 5), 0);
        due("above: b first, then a", x.ifLoad(0, 6), 3);
    }

    /** "RAILS, as bits, that would come to the ROW or, as they WAIT, be OFF, if a RAIL were ASKED OFF now; NONE: no such RAIL." */
    private static void ifOff() {
        PowerRails x = Checks.told("rail a source 20 10 0 0 9;rail b a 20 10 0 0 9;rail c b 5 5 0 0 9;rail d a 5 5 0 0 9;"
            + "rail e source 5 5 0 0 9;fall 10;");
        due("all are off", x.ifOff(0), 0);
        x.ask(0, false);
        x.ask(2, false);
        due("it waits: nothing of what hangs on it", x.ifOff(0), 1);
        due("c alone", x.ifOff(2), 4);
        x.tick(1);
        due("it rises: c, that waits, too", x.ifOff(0), 1 | 4);
        due("b is off: c stays", x.ifOff(1), 0);
        x.ask(1, false);
        x.ask(3, false);
        x.tick(3);
        due("up, one rises, one waits, one is up", x.ifOff(0), 1 | 2 | 4 | 8);
        due("of e, that is off", x.ifOff(4), 0);
        String before = Checks.whole(x);
        x.ifOff(0);
        Checks.same("ifOff", Checks.whole(x), before);
        x.ask(1, true);
        due("b is in the row, c off", x.ifOff(0), 1 | 8);
        due("b once more", x.ifOff(1), 0);
        x.tick(1);
        due("b falls", x.ifOff(1), 0);
        due("a without it", x.ifOff(0), 1 | 8);
        for (int i : new int[] {-1, 5, 12, 32, Integer.MAX_VALUE, Integer.MIN_VALUE}) {
            due("ifOff(" + i + ")", x.ifOff(i), -1);
        }
        due("of a new object", new PowerRails().ifOff(0), -1);
        x = asked(rails(12, 0), 0, 1, 2, 3, 4, 5, 6, 7, 8, 9, 10, 11);
        for (int i = 0; i < 12; i++) {
            due("each of twelve", x.ifOff(i), 1 << i);
        }
    }

    /** "The RAIL that RISES or is UP whose .. TOTAL AS IT GOES in n 1 .. 60 TICKS least, the first; -2: there is none; NONE". */
    private static void bestOff() {
        int[] noTicks = {0, -1, 61, 300, Integer.MAX_VALUE, Integer.MIN_VALUE};
        PowerRails x = asked("rail a source 1 1 0 9 99;rail b a 1 1 0 9 99;fall 1;", 1);
        for (int n : noTicks) {
            due("bestOff(" + n + ") of none", x.bestOff(n), -1);
            due("bestOff(" + n + ") of a new object", new PowerRails().bestOff(n), -1);
        }
        due("one waits, none is up", x.bestOff(1), -2);
        due("of a new object", new PowerRails().bestOff(60), -2);
        x.ask(0, false);
        x.tick(1);
        x.ask(1, true);
        due("the only one", x.bestOff(1), 0);
        for (int n : noTicks) {
            due("bestOff(" + n + ")", x.bestOff(n), -1);
        }
        x.ask(0, true);
        x.tick(1);
        due("one falls, none is up", x.bestOff(1), -2);
        // In the n-th tick, not in those ahead of it: b falls in the 59th, a's own step takes it off in the 60th.
        x = asked("rail a source 1 1 0 9 99;rail b source 1 1 0 9 99;rail c source 1 1 0 8 99;fall 1;wait 58;off c;", 0, 1, 2);
        x.tick(1);
        x.begin();
        due("the first of two as great", x.bestOff(2), 0);
        due("in 59 c draws yet", x.bestOff(59), 0);
        x.load(2, 10);
        due("in 1 all draw: the first", x.bestOff(1), 0);
        due("in 2 c is the greatest", x.bestOff(2), 2);
        due("in 59", x.bestOff(59), 2);
        due("in 60 it is off by itself", x.bestOff(60), 0);
        // Of twelve the last one; one that rises, too.
        x = asked(rails(11, 1) + "rail l source 99 1 99 9 999;", 0, 1, 2, 3, 4, 5, 6, 7, 8, 9, 10, 11);
        x.tick(1);
        due("it rises", Checks.rail(x, 11, 6), 2);
        due("the last of twelve", x.bestOff(60), 11);
        x.load(11, 0);
        due("with all of its volts soon, nothing is drawn", x.bestOff(60), 11);
    }

    private static long next(long number) {
        return (number * 1103515245L + 12345L) % 2147483648L;
    }

    /** "without what is above 31 bits", "by 65536, rounded down, modulo what is said", "(p and 1)": each seed and p. */
    private static void draws() {
        long[] seeds = {0, 1, 2, 65535, 65536, 99999, 1103515245L, 1073741824L, 2147483646L, 2147483647L};
        for (int count : new int[] {1, 2, 3, 11, 12}) {
            PowerRails x = Checks.told(rails(count, 0));
            for (int i = 0; i < count; i++) {
                x.ask(i, false);
            }
            x.tick(1);
            for (long seed : seeds) {
                for (int p : new int[] {1, 2, 255, 9998, 9999}) {
                    long number = seed;
                    int[] loads = new int[count];
                    int greatest = 0;
                    for (int n = 1; n <= 200; n++) {
                        number = next(number);
                        int i = (int) (number / 65536 % count);
                        number = next(number);
                        loads[i] = (int) (number / 65536 % (p + 1));
                        int total = 0;
                        for (int one : loads) {
                            total += one;
                        }
                        greatest = Math.max(greatest, total);
                        if (n <= 3 || n == 200) {
                            due("chance(" + seed + ", " + n + ", " + p + ", 0) of " + count,
                                x.chance((int) seed, n, p, 0), greatest);
                        }
                    }
                }
            }
        }
    }

    /** "from a seed 0 .. 2147483647 on (-1: that of the TEXT)": 0 is a seed of its own; none told is 0. */
    private static void seeds() {
        for (int told : new int[] {0, 1, 77, 99999}) {
            PowerRails x = asked(rails(3, 0) + "seed " + told + ";", 0, 1, 2);
            int differ = 0;
            for (int n = 1; n <= 20; n++) {
                due("the text's seed " + told, x.chance(-1, n, 9999, 0), x.chance(told, n, 9999, 0));
                differ += x.chance(0, n, 9999, 0) != x.chance(-1, n, 9999, 0) ? 1 : 0;
            }
            due("0 isn't that of the text", differ > 0 ? 1 : 0, told == 0 ? 0 : 1);
        }
        PowerRails x = asked(rails(3, 0), 0, 1, 2);
        for (int n = 1; n <= 20; n++) {
            due("no seed told", x.chance(-1, n, 9999, 0), x.chance(0, n, 9999, 0));
        }
    }

    /** "n 1 .. 200, p 1 .. 9999, from a seed 0 .. 2147483647 .. NONE: no such ones"; "(without RAILS: no DRAW)". */
    private static void chanceRefused() {
        PowerRails x = asked(rails(12, 3), 0, 1, 2, 3, 4, 5, 6, 7, 8, 9, 10, 11);
        x.tick(1);
        PowerRails none = new PowerRails();
        String before = Checks.whole(x);
        for (PowerRails each : new PowerRails[] {x, none}) {
            for (int n : new int[] {0, -1, 201, Integer.MAX_VALUE, Integer.MIN_VALUE}) {
                due("chance(0, " + n + ", 1, 0)", each.chance(0, n, 1, 0), -1);
            }
            for (int p : new int[] {0, -1, 10000, Integer.MAX_VALUE, Integer.MIN_VALUE}) {
                due("chance(0, 1, " + p + ", 0)", each.chance(0, 1, p, 0), -1);
            }
            for (int seed : new int[] {-2, -3, Integer.MIN_VALUE}) {
                due("chance(" + seed + ", 1, 1, 0)", each.chance(seed, 1, 1, 0), -1);
            }
            for (int what : new int[] {-1, 3, 4, Integer.MAX_VALUE, Integer.MIN_VALUE}) {
                due("chance(0, 1, 1, " + what + ")", each.chance(0, 1, 1, what), -1);
            }
        }
        for (int what = 0; what < 3; what++) {
            due("without rails, " + what, none.chance(-1, 200, 9999, what), 0);
            due("without rails, the greatest seed, " + what, none.chance(2147483647, 1, 1, what), 0);
        }
        due("all are good", x.chance(0, 1, 1, 2), 0xfff);
        Checks.same("chance", Checks.whole(x), before);
    }

    /** "0 the greatest TOTAL behind any of these, 1 how many TRIPS in these, 2 RAILS that are GOOD then". */
    private static void chanceTells() {
        // Behind these: now's total, greater than any of them, isn't.
        PowerRails x = asked("rail a source 1 1 0 900 9999;", 0);
        x.tick(1);
        due("now's total", x.total(), 900);
        due("with loads of 0 and 1", x.chance(0, 200, 1, 0), 1);
        // A load of 0 or 1 is never over a limit of 1; trips that are behind it don't count.
        x = asked("rail a source 10 10 0 900 1;rail b source 1 1 0 0 9999;rail c b 1 1 0 0 9999;fall 9999;retry 9 1;", 0);
        x.tick(2);
        due("a trip behind it", x.count(7), 1);
        x.load(0, 0);
        due("no trips ahead", x.chance(5, 200, 1, 1), 0);
        due("it came again", x.chance(5, 200, 1, 2), 1);
        x.ask(1, false);
        due("and b", x.chance(5, 200, 1, 2), 3);
        due("in one tick a is off, b up", x.chance(5, 1, 1, 2), 2);
        // One rail: each load above 1 is over; low in the tick behind it, whatever is drawn then.
        x = asked("rail a source 10 10 0 0 1;low 100;droop 1;", 0);
        x.tick(1);
        long number = 3;
        int first = 0;
        for (int n = 1; n <= 200 && first == 0; n++) {
            number = next(next(number));
            first = number / 65536 % 3 > 1 ? n : 0;
        }
        due("a first load of 2", first > 0 && first < 190 ? 1 : 0, 1);
        due("no trip with it", x.chance(3, first, 2, 1), 0);
        due("good yet", x.chance(3, first, 2, 2), 1);
        due("a trip behind it", x.chance(3, first + 1, 2, 1), 1);
        due("good no more", x.chance(3, first + 1, 2, 2), 0);
        due("off for good", x.chance(3, 200, 2, 1), 1);
    }

    public static void main(String[] args) {
        ring();
        firstRing();
        ringsNeverComeUp();
        never();
        orderAndHeat();
        heat();
        ahead();
        tripsAhead();
        peak();
        quietWhen();
        quietInThreeHundred();
        leastLimit();
        ifLoad();
        ifOff();
        bestOff();
        draws();
        seeds();
        chanceRefused();
        chanceTells();
        Checks.finish("AheadEdgesTest");
    }
}
