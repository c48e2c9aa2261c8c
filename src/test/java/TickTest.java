/** Promises 6 to 16, 28, 29, 34: asking, the tick in its parts, the sequence, what each answers of it. */
public final class TickTest {
    private static final int OFF = 0;
    private static final int WAITS = 1;
    private static final int RISES = 2;
    private static final int UP = 3;
    private static final int FALLS = 4;

    private static void due(String call, long got, long want) {
        Checks.due(call, got, want);
    }

    private static int rail(PowerRails x, int i, int what) {
        return Checks.rail(x, i, what);
    }

    private static void stands(PowerRails x, String when, int i, int state, int volts, int draw) {
        Checks.stands(x, when, i, state, volts, draw);
    }

    private static void lined(PowerRails x, String when, boolean row, int... rails) {
        Checks.lined(x, when, row, rails);
    }

    private static void logged(PowerRails x, String when, int... entries) {
        Checks.logged(x, when, entries);
    }

    private static void refusals() {
        PowerRails x = Checks.told("rail a source 10 10 0 5 9;on a;");
        String before = Checks.picture(x);
        for (int n : new int[] {0, -1, 51, Integer.MAX_VALUE, Integer.MIN_VALUE}) {
            due("tick(" + n + ")", x.tick(n), -1);
        }
        for (int i : new int[] {-1, 1, 12, Integer.MAX_VALUE, Integer.MIN_VALUE}) {
            due("ask no rail", x.ask(i, false), -1);
            due("load of no rail", x.load(i, 5), -1);
            due("limit of no rail", x.limit(i, 5), -1);
            due("rail of no rail", rail(x, i, 0), 1000001);
            due("rail of no rail and no what", rail(x, i, 99), 1000001);
            due("hangs of no rail", x.hangs(i, 0), -1);
            due("why of no rail", x.why(i), -1);
        }
        for (int what : new int[] {-1, 15, Integer.MAX_VALUE, Integer.MIN_VALUE}) {
            due("rail of no what", rail(x, 0, what), 1000002);
            due("hangs of no what", x.hangs(0, what), -1);
            due("sequence of no what", x.sequence(what), -1);
            due("count of no what", x.count(what), -1);
        }
        due("hangs(0, 3)", x.hangs(0, 3), -1);
        due("load below 0", x.load(0, -1), -1);
        due("load above 9999", x.load(0, 10000), -1);
        due("limit below 1", x.limit(0, 0), -1);
        due("limit above 99999", x.limit(0, 100000), -1);
        due("waiting(-1, false)", x.waiting(-1, false), -1);
        due("waiting of the least int", x.waiting(Integer.MIN_VALUE, true), -1);
        due("waiting of the greatest int", x.waiting(Integer.MAX_VALUE, true), -2);
        due("all stays", Checks.picture(x).equals(before) ? 1 : 0, 1);
        due("nothing to undo", x.count(9), 0);
    }

    private static void softStart() {
        PowerRails x = Checks.told("rail a source 1000 300 16 100 350;low 95;droop 7;");
        due("began at first", rail(x, 0, 11), -2);
        due("ask", x.ask(0, false), WAITS);
        lined(x, "asked", false, 0);
        due("why", x.why(0), 0);
        stands(x, "asked", 0, WAITS, 0, 0);
        due("tick(1)", x.tick(1), 1);
        stands(x, "tick 1", 0, RISES, 300, 330);
        due("over in tick 1", rail(x, 0, 9), 0);
        due("why, when it rises", x.why(0), -2);
        lined(x, "tick 1", false);
        x.tick(1);
        stands(x, "tick 2", 0, RISES, 600, 360);
        due("over in tick 2", rail(x, 0, 9), 1);
        x.tick(1);
        stands(x, "tick 3, that of a rise doesn't droop", 0, RISES, 900, 390);
        due("good, when it rises", rail(x, 0, 10), 0);
        x.tick(1);
        stands(x, "tick 4", 0, UP, 1000, 200);
        due("good", rail(x, 0, 10), 1);
        due("good rails", x.count(6), 1);
        due("total", x.total(), 200);
        due("tick(2)", x.tick(2), 6);
        stands(x, "tick 6", 0, UP, 1000, 100);
        due("began", rail(x, 0, 11), 1);
        logged(x, "tick 6", 4, 0, 1, 1, 0, 0);
        due("entries", x.count(8), 2);
        due("ask once more", x.ask(0, false), UP);
        due("ask off", x.ask(0, true), UP);
        lined(x, "asked off", true, 0);
        due("ask on in the row", x.ask(0, false), UP);
        lined(x, "asked on in the row", true, 0);
        x.tick(1);
        stands(x, "tick 7", 0, FALLS, 1000, 100);
        due("ask on, when it falls", x.ask(0, false), FALLS);
        due("ask off, when it falls", x.ask(0, true), FALLS);
        x.tick(1);
        stands(x, "tick 8", 0, FALLS, 500, 0);
        x.tick(1);
        stands(x, "tick 9", 0, OFF, 0, 0);
        due("to come again", rail(x, 0, 14), -2);
        logged(x, "tick 9", 9, 0, 4, 7, 0, 3);
        due("ask off, when it is off", x.ask(0, true), OFF);
    }

    private static void roundings() {
        PowerRails x = Checks.told("rail a source 9 4 5 7 99;fall 1;");
        x.ask(0, false);
        x.tick(1);
        stands(x, "4 of 9", 0, RISES, 4, 7 * 4 / 9 + 5 * 4 / 16);
        x.tick(1);
        stands(x, "8 of 9", 0, RISES, 8, 7 * 8 / 9 + 1);
        x.tick(1);
        stands(x, "9 of 9", 0, UP, 9, 7);
        due("load", x.load(0, 9999), 7);
        due("draw stays till the next tick", rail(x, 0, 8), 7);
        due("limit", x.limit(0, 9998), 99);
        x.tick(1);
        due("draw then", rail(x, 0, 8), 9999);
        due("over then", rail(x, 0, 9), 1);
        due("limit once more", x.limit(0, 9999), 9998);
        due("load of 0", x.load(0, 0), 9999);
    }

    /** A parent that isn't good ahead of a need that isn't; in their order they rise. */
    private static void whoRises() {
        PowerRails x = Checks.told("rail a source 10 5 0 1 99;rail b source 10 10 0 2 99;rail c a 10 10 0 4 99;"
            + "rail d a 10 10 0 8 99;needs c b;needs d b;");
        x.ask(3, false);
        x.ask(2, false);
        lined(x, "asked", false, 3, 2);
        due("why d", x.why(3), 1);
        x.ask(0, false);
        x.ask(3, false);
        lined(x, "asked twice", false, 3, 2, 0);
        x.tick(1);
        lined(x, "tick 1", false, 3, 2);
        x.tick(1);
        due("a is up", rail(x, 0, 6), UP);
        due("why c then", x.why(2), 2);
        x.tick(1);
        lined(x, "tick 3", false, 3, 2);
        x.ask(1, false);
        x.tick(1);
        due("c waits for the tick behind b's", rail(x, 2, 6), WAITS);
        due("why c, b being good", x.why(2), 0);
        x.tick(1);
        logged(x, "both rise, by their order, and are up by numbers", 5, 3, 1, 5, 2, 1, 5, 2, 0, 5, 3, 0);
        stands(x, "draws of both go to a", 0, UP, 10, 1 + 4 + 8);
        stands(x, "not to b", 1, UP, 10, 2);
        due("total is of those under the source", x.total(), 15);
        due("needs of c", x.hangs(2, 0), 2);
        due("c hangs on", x.hangs(2, 1), 3);
        due("on a hang", x.hangs(0, 2), 12);
        due("on b hang", x.hangs(1, 2), 12);
        due("a hangs on", x.hangs(0, 1), 0);
    }

    private static void whatHangs() {
        PowerRails x = Checks.told("rail a source 1 1 0 0 1;rail b a 1 1 0 0 1;rail c b 1 1 0 0 1;rail d source 1 1 0 0 1;"
            + "needs a d;");
        due("c needs", x.hangs(2, 0), 0);
        due("c hangs on all", x.hangs(2, 1), 1 | 2 | 8);
        due("on d hang all", x.hangs(3, 2), 1 | 2 | 4);
        due("a needs", x.hangs(0, 0), 8);
    }

    private static void sag() {
        PowerRails x = Checks.told("rail a source 1000 100 16 100 99;droop 250;low 50;");
        x.ask(0, false);
        x.tick(10);
        stands(x, "up", 0, UP, 1000, 200);
        x.tick(1);
        stands(x, "over in the tick ahead", 0, UP, 750, 75);
        x.tick(1);
        stands(x, "no more over", 0, UP, 850, 85 + 100);
        x.tick(1);
        stands(x, "its charge is over", 0, UP, 600, 60);
        due("good at 60 of 100", rail(x, 0, 10), 1);
        x = Checks.told("rail a source 500 500 0 100 1;droop 999;low 1;filter 9;");
        x.ask(0, false);
        x.tick(2);
        stands(x, "no lower than 0", 0, UP, 0, 0);
        due("good at 0", rail(x, 0, 10), 0);
        x.tick(1);
        stands(x, "no higher than its level", 0, UP, 500, 100);
        // Low is met by what is just enough.
        x = Checks.told("rail a source 1000 1000 0 100 99;droop 100;low 90;");
        x.ask(0, false);
        x.tick(2);
        stands(x, "just enough", 0, UP, 900, 90);
        due("is good", rail(x, 0, 10), 1);
        due("no trip", x.count(7), 0);
        x = Checks.told("rail a source 1000 1000 0 100 99;droop 101;low 90;");
        x.ask(0, false);
        x.tick(2);
        due("one less trips", x.count(7), 1);
    }

    private static void filter() {
        PowerRails x = Checks.told("rail a source 1000 1000 0 100 50;droop 200;low 90;filter 3;fall 9999;");
        x.ask(0, false);
        x.tick(3);
        stands(x, "low for two ticks", 0, UP, 600, 60);
        due("no trip yet", rail(x, 0, 12), 0);
        x.tick(1);
        stands(x, "the third one", 0, FALLS, 400, 40);
        due("a trip", rail(x, 0, 12), 1);
        logged(x, "the trip", 4, 0, 3, 4, 0, 2, 1, 0, 1);
        // Between, one good tick begins the count anew.
        x = Checks.told("rail a source 1000 1000 0 100 99;droop 101;low 90;filter 2;");
        x.ask(0, false);
        x.tick(50);
        due("never two in a row", x.count(7), 0);
    }

    private static void unwinding() {
        PowerRails x = Checks.told("rail a source 10 10 0 1 99;rail b a 10 10 0 1 99;rail c a 10 10 0 1 99;"
            + "rail d source 10 10 0 1 99;rail e source 10 10 0 1 99;rail f e 10 10 0 1 99;needs d c;fall 4;");
        for (int i = 0; i < 6; i++) {
            if (i != 4) {
                x.ask(i, false);
            }
        }
        x.tick(5);
        for (int i = 0; i < 4; i++) {
            due("began " + i, rail(x, i, 11), new int[] {1, 2, 2, 3}[i]);
        }
        due("f waits", rail(x, 5, 6), WAITS);
        due("ask off", x.ask(0, true), UP);
        lined(x, "d began latest; c is greater than b", true, 3, 2, 1, 0);
        lined(x, "f doesn't hang on a", false, 5);
        x.ask(2, true);
        lined(x, "none comes twice", true, 3, 2, 1, 0);
        x.tick(1);
        lined(x, "one by one", true, 2, 1, 0);
        due("d falls", rail(x, 3, 6), FALLS);
        due("c is up", rail(x, 2, 6), UP);
        x.tick(3);
        lined(x, "all", true);
        due("d is off", rail(x, 3, 6), OFF);
        due("a falls", rail(x, 0, 6), FALLS);
        logged(x, "the latest", 9, 0, 3, 9, 3, 4, 8, 1, 3, 7, 2, 3, 6, 3, 3);
        x.ask(4, false);
        x.tick(1);
        x.ask(5, true);
        due("one that waits is off at once", rail(x, 5, 6), OFF);
        lined(x, "it isn't in the row", true);
        x.ask(5, false);
        x.ask(4, true);
        due("one that hangs on it and waits is off", rail(x, 5, 6), OFF);
        lined(x, "the row has the other", true, 4);
    }

    /** Rails whose numbers don't go the way of their needs; all twelve at once. */
    private static void unwindingUpwards() {
        PowerRails x = Checks.told("rail a source 10 10 0 1 99;rail b source 10 10 0 1 99;needs a b;");
        x.ask(0, false);
        x.ask(1, false);
        x.tick(3);
        x.ask(1, true);
        lined(x, "a began behind b", true, 0, 1);
        StringBuilder all = new StringBuilder();
        for (char c = 'a'; c <= 'l'; c++) {
            all.append("rail ").append(c).append(" source 10 10 0 1 99;");
        }
        x = Checks.told(all + "on a;".repeat(23) + "guard a 1;");
        for (int i = 11; i >= 0; i--) {
            x.ask(i, false);
        }
        lined(x, "twelve", false, 11, 10, 9, 8, 7, 6, 5, 4, 3, 2, 1, 0);
        x.tick(1);
        lined(x, "all rise in one tick", false);
        due("all are up", x.count(6), 12);
        x.begin();
        x.tick(1);
        due("24 steps in one tick", x.sequence(0), 2);
        x.ask(5, true);
        x.begin();
        x.tick(2);
        due("f is off", Checks.rail(x, 5, 6), OFF);
        for (int i = 0; i < 12; i++) {
            x.ask(i, true);
        }
        lined(x, "in the order of asking", true, 0, 1, 2, 3, 4, 6, 7, 8, 9, 10, 11);
    }

    /** What holds where the text doesn't say otherwise. */
    private static void settingsUntold() {
        PowerRails x = Checks.told("rail a source 1000 1000 0 100 99;");
        x.ask(0, false);
        x.tick(2);
        stands(x, "droop is 50", 0, UP, 950, 95);
        x.load(0, 9999);
        x.tick(1);
        stands(x, "950 was not over", 0, UP, 1000, 9999);
        x.tick(2);
        stands(x, "low is 90: 900 is good", 0, UP, 900, 8999);
        due("no trip", x.count(7), 0);
        x.tick(1);
        stands(x, "filter is 1", 0, FALLS, 850, 8499);
        x.tick(1);
        stands(x, "fall is 500", 0, FALLS, 350, 0);
        x.tick(1);
        due("retry is 0 times", Checks.rail(x, 0, 14), -2);
        StringBuilder all = new StringBuilder();
        for (char c = 'a'; c <= 'l'; c++) {
            all.append("rail ").append(c).append(" source 10 10 0 1 99999;");
        }
        x = Checks.told(all.toString());
        for (int i = 0; i < 12; i++) {
            x.ask(i, false);
            x.load(i, i < 10 ? 9999 : 0);
        }
        x.load(10, 9);
        x.tick(1);
        due("total", x.total(), 99999);
        due("budget is 99999", x.count(7), 0);
        x.load(10, 10);
        x.tick(1);
        due("100000 are above it", x.count(7), 1);
    }

    /** A rail that only waits takes nothing that hangs on it along. */
    private static void askedOffWhileItWaits() {
        PowerRails x = Checks.told("rail a source 10 10 0 1 99;rail b a 10 10 0 1 99;rail c source 10 10 0 1 99;needs a c;");
        x.ask(1, false);
        x.ask(0, false);
        due("ask off", x.ask(0, true), OFF);
        lined(x, "b waits on", false, 1);
        // One in the row goes on rising, and rises on, its parent in the row.
        x = Checks.told("rail a source 10 10 0 1 99;rail b a 100 10 0 10 99;");
        x.ask(0, false);
        x.tick(1);
        x.ask(0, true);
        x.ask(1, false);
        x.tick(1);
        due("a falls", rail(x, 0, 6), FALLS);
        stands(x, "b rises with a good parent in the row", 1, RISES, 10, 1);
        x.tick(9);
        stands(x, "b is up, its parent off", 1, UP, 100, 10);
        stands(x, "a draws what b does", 0, OFF, 0, 10);
        due("total", x.total(), 10);
    }

    private static void twoTripsInOneTick() {
        PowerRails x = Checks.told("rail a source 100 100 0 10 5;rail b a 100 100 0 10 99;rail c source 100 100 0 10 5;"
            + "low 100;droop 1;on a;on c;guard b 50;wait 99;");
        x.begin();
        x.tick(1);
        due("b isn't asked", rail(x, 1, 6), OFF);
        due("the sequence runs", x.sequence(0), 1);
        x.tick(1);
        due("trips of a", rail(x, 0, 12), 1);
        due("trips of c", rail(x, 2, 12), 1);
        due("all trips", x.count(7), 2);
        due("the sequence failed", x.sequence(0), 3);
        logged(x, "by numbers, failing once", 2, 0, 3, 2, 2, 2, 2, -2, 5, 2, 0, 2);
        lined(x, "c is in the row yet", true, 2);
        // One that hangs on a rail that trips ahead of it doesn't trip itself.
        x = Checks.told("rail a source 100 100 0 10 5;rail b source 100 100 0 10 5;needs b a;low 100;droop 1;filter 2;");
        x.ask(0, false);
        x.ask(1, false);
        x.tick(3);
        due("only a", x.count(7), 1);
        due("b has begun to go", rail(x, 1, 6), FALLS);
        lined(x, "behind it a", true, 0);
    }

    private static void budget() {
        PowerRails x = Checks.told("rail a source 100 100 0 100 999;rail b source 100 50 0 100 999;"
            + "rail c source 100 50 0 100 999;budget 199;");
        x.ask(0, false);
        x.tick(1);
        x.ask(1, false);
        x.ask(2, false);
        x.tick(1);
        due("200 is above 199", x.total(), 200);
        due("of one tick the greater number", rail(x, 2, 12), 1);
        stands(x, "it falls while it rose", 2, FALLS, 50, 50);
        due("b stays", rail(x, 1, 6), RISES);
        x.tick(1);
        due("200 once more", x.total(), 200);
        due("b trips", rail(x, 1, 12), 1);
        due("a doesn't", rail(x, 0, 12), 0);
        x = Checks.told("rail a source 100 100 0 200 999;rail b source 100 100 0 0 999;budget 200;");
        x.ask(0, false);
        x.tick(3);
        due("200 is not above 200", x.count(7), 0);
        x.load(0, 201);
        x.ask(0, true);
        x.tick(1);
        due("it is in the row alone: none trips", x.count(7), 0);
    }

    private static void retries() {
        PowerRails x = Checks.told("rail a source 1000 1000 0 100 50;droop 300;fall 500;retry 2 3;");
        x.ask(0, false);
        x.tick(2);
        stands(x, "the trip", 0, FALLS, 700, 70);
        x.tick(1);
        due("not yet to come again", rail(x, 0, 14), -2);
        x.tick(1);
        stands(x, "off", 0, OFF, 0, 0);
        due("in 3 ticks", rail(x, 0, 14), 3);
        x.tick(2);
        due("in 1 tick", rail(x, 0, 14), 1);
        x.tick(1);
        stands(x, "again", 0, UP, 1000, 100);
        due("one retry", rail(x, 0, 13), 1);
        due("not to come again", rail(x, 0, 14), -2);
        logged(x, "again", 7, 0, 1, 7, 0, 0, 7, 0, 7, 4, 0, 4, 2, 0, 3);
        x.tick(6);
        due("two retries", rail(x, 0, 13), 2);
        due("two trips", rail(x, 0, 12), 2);
        x.tick(3);
        stands(x, "off for good", 0, OFF, 0, 0);
        due("three trips", rail(x, 0, 12), 3);
        due("retries stay", rail(x, 0, 13), 2);
        due("no more", rail(x, 0, 14), -2);
        x.ask(0, false);
        due("asking begins anew", rail(x, 0, 13), 0);
        x.tick(4);
        due("so it is to come again", rail(x, 0, 14), 3);
        x.ask(0, true);
        due("asking ends that", rail(x, 0, 14), -2);
        x.tick(5);
        stands(x, "it stays off", 0, OFF, 0, 0);
    }

    private static void noRetryOfOthers() {
        PowerRails x = Checks.told("rail a source 1000 1000 0 100 50;rail b source 10 10 0 0 9;needs b a;"
            + "droop 300;fall 9999;filter 2;retry 9 1;");
        x.ask(0, false);
        x.ask(1, false);
        x.tick(3);
        due("a trips", rail(x, 0, 12), 1);
        due("b goes first", rail(x, 1, 6), FALLS);
        x.tick(1);
        stands(x, "b is off", 1, OFF, 0, 0);
        due("b isn't to come again", rail(x, 1, 14), -2);
        x.tick(1);
        due("a is", rail(x, 0, 14), 1);
        // A rail that tripped once, and is asked off later, is not to come again.
        x.limit(0, 999);
        x.ask(0, false);
        x.tick(2);
        x.ask(0, true);
        x.tick(2);
        stands(x, "asked off", 0, OFF, 0, 0);
        due("not to come again", rail(x, 0, 14), -2);
    }

    /** Whoever asks decides anew: the trip that lies ahead of it brings nothing back, wherever the rail is by then. */
    private static void askedBehindItsTrip() {
        for (int how = 0; how < 4; how++) {
            boolean off = how % 2 == 1;
            boolean byStep = how >= 2;
            String when = (off ? "asked off" : "asked on") + (byStep ? " by a step" : "");
            PowerRails x = Checks.told("rail a source 1000 1000 0 100 50;droop 300;fall 300;retry 2 3;"
                + (off ? "off a;" : "on a;"));
            x.ask(0, false);
            x.tick(2);
            due(when + ": it falls", rail(x, 0, 6), FALLS);
            due(when + ": not asked it comes again", x.ahead(0, 3 + 3, 0), UP);
            if (byStep) {
                due(when + ": begin", x.begin(), 1);
            } else {
                due(when + ": it falls on", x.ask(0, off), FALLS);
            }
            x.tick(3);
            stands(x, when, 0, OFF, 0, 0);
            due(when + ": not to come again", rail(x, 0, 14), -2);
            due(when + ": quiet", x.quiet(), 0);
            due(when + ": off for good", x.ahead(0, 300, 0), OFF);
            x.ask(0, false);
            x.tick(5);
            stands(x, when + ", on once more", 0, OFF, 0, 0);
            due(when + ": the next trip brings it again", rail(x, 0, 14), 3);
        }
    }

    /** b trips, c that hangs on it goes first: b is in the row while it is asked, or a is, on which it hangs. */
    private static void askedInTheRow() {
        for (int how = 0; how < 3; how++) {
            PowerRails x = Checks.told("rail a source 1000 1000 0 0 99;rail b a 1000 1000 0 0 50;"
                + "rail c b 10 10 0 0 9;filter 2;low 80;droop 300;fall 9999;retry 2 7;");
            x.ask(0, false);
            x.ask(1, false);
            x.ask(2, false);
            x.tick(3);
            x.load(1, 90);
            x.limit(0, 999);
            x.tick(3);
            due("b trips", rail(x, 1, 12), 1);
            lined(x, "c falls, b is behind it", true, 1);
            due("b is up", how < 2 ? x.ask(1, how == 1) : rail(x, 1, 6), UP);
            if (how == 2) {
                due("a is up", x.ask(0, true), UP);
                lined(x, "a comes behind b", true, 1, 0);
            } else {
                lined(x, "b stays in the row", true, 1);
            }
            x.tick(2);
            stands(x, "how " + how, 1, OFF, 0, 0);
            due("b asked itself isn't to come again: how " + how, rail(x, 1, 14), how == 2 ? 7 : -2);
            due("c isn't", rail(x, 2, 14), -2);
        }
    }

    private static void sequence() {
        PowerRails x = Checks.told("rail a source 10 10 0 1 99;rail b source 20 10 0 1 99;"
            + "on a;wait 2;on b;guard b 5;off a;wait 1;");
        due("none of these", x.sequence(0), 0);
        due("begin", x.begin(), 6);
        due("runs", x.sequence(0), 1);
        due("at 0", x.sequence(1), 0);
        due("begin while it runs", x.begin(), -2);
        int[][] at = {{1, 1}, {1, 2}, {3, 1}, {3, 2}, {5, 1}, {6, 0}};
        for (int k = 0; k < at.length; k++) {
            x.tick(1);
            due("tick " + (k + 1) + ": step", x.sequence(1), at[k][0]);
            due("tick " + (k + 1) + ": stay", x.sequence(2), at[k][1]);
        }
        due("done", x.sequence(0), 2);
        logged(x, "done", 6, 0, 4, 6, -2, 6, 5, 0, 3, 4, 1, 1);
        due("begin again", x.begin(), 6);
        due("runs again", x.sequence(0), 1);
        due("at 0 again", x.sequence(1), 0);
        PowerRails none = Checks.told("rail a source 10 10 0 1 99;");
        due("begin without steps", none.begin(), -1);
        due("sequence(3)", x.sequence(3), -1);
    }

    private static void guardFails() {
        PowerRails x = Checks.told("rail a source 10 10 0 1 99;rail b source 100 10 0 1 99;rail c b 10 10 0 1 99;"
            + "on a;wait 1;on b;on c;guard b 3;");
        x.begin();
        x.tick(3);
        due("it stays", x.sequence(2), 2);
        due("it runs", x.sequence(0), 1);
        x.tick(1);
        due("the third tick of its staying", x.sequence(0), 3);
        due("it stays at the guard", x.sequence(1), 4);
        lined(x, "c waits no more", false);
        due("c is off", rail(x, 2, 6), OFF);
        due("b, that began latest, falls", rail(x, 1, 6), FALLS);
        lined(x, "a comes behind it", true, 0);
        due("no trip", x.count(7), 0);
        logged(x, "failed ahead of the fall", 4, 1, 3, 4, -2, 5);
        due("begin", x.begin(), 5);
        due("runs", x.sequence(0), 1);
        x = Checks.told("rail a source 10 10 0 1 99;on a;guard a 1;");
        x.begin();
        x.tick(1);
        due("in its first tick it isn't good yet", x.sequence(0), 3);
        due("so a, that waits, is off", rail(x, 0, 6), OFF);
        x = Checks.told("rail a source 10 10 0 1 99;on a;guard a 2;");
        x.begin();
        x.tick(2);
        due("in the second it is", x.sequence(0), 2);
    }

    private static void log() {
        PowerRails x = Checks.told("rail a source 10 10 0 1 99;");
        due("no entry", x.log(0, 0), -1);
        for (int k = 0; k < 15; k++) {
            x.ask(0, false);
            x.tick(1);
            x.ask(0, true);
            x.tick(2);
        }
        due("entries", x.count(8), 40);
        due("the latest", x.log(0, 0), 45);
        due("the last one kept", x.log(39, 0), 16);
        due("what it is", x.log(39, 2), 0);
        due("one behind", x.log(40, 0), -1);
        due("log(-1, 0)", x.log(-1, 0), -1);
        due("log(0, 3)", x.log(0, 3), -1);
        due("log(0, -1)", x.log(0, -1), -1);
        due("log of the least int", x.log(Integer.MIN_VALUE, 0), -1);
    }

    private static void lastTick() {
        PowerRails x = Checks.told("rail a source 10 10 0 1 99;");
        for (int k = 0; k < 199; k++) {
            x.tick(50);
        }
        due("beyond 9999", x.tick(50), -2);
        due("tick(49)", x.tick(49), 9999);
        due("none more", x.tick(1), -2);
        due("no such n goes first", x.tick(51), -1);
        x.ask(0, false);
        due("what is ahead goes on", x.ahead(0, 1, 0), UP);
        due("quiet", x.quiet(), 1);
    }

    public static void main(String[] args) {
        refusals();
        softStart();
        roundings();
        whoRises();
        whatHangs();
        sag();
        filter();
        unwinding();
        unwindingUpwards();
        settingsUntold();
        askedOffWhileItWaits();
        twoTripsInOneTick();
        budget();
        retries();
        noRetryOfOthers();
        askedBehindItsTrip();
        askedInTheRow();
        sequence();
        guardFails();
        log();
        lastTick();
        Checks.finish("TickTest");
    }
}
