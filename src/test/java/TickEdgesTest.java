/**
 * The boundaries of the states, of asking and of the tick in its parts: Terms 2. One method for each sentence of
 * the document that names a boundary; the sentence stands above it.
 */
public final class TickEdgesTest {
    private static final int OFF = 0;
    private static final int WAITS = 1;
    private static final int RISES = 2;
    private static final int UP = 3;
    private static final int FALLS = 4;

    private static void due(String call, long got, long want) {
        Checks.due(call, got, want);
    }

    private static int rail(PowerRails x, int i, int what) {
        return Checks.rail(x, i, what);
    }

    private static void stands(PowerRails x, String when, int i, int state, int volts, int draw) {
        Checks.stands(x, when, i, state, volts, draw);
    }

    private static PowerRails asked(String text, int... rails) {
        PowerRails x = Checks.told(text);
        for (int i : rails) {
            x.ask(i, false);
        }
        return x;
    }

    /** "At first all are OFF, VOLTS 0, TICK 0." */
    private static void atFirst() {
        PowerRails x = Checks.told("rail a source 5 5 9 7 1;rail b a 5 5 9 7 1;");
        for (int i = 0; i < 2; i++) {
            stands(x, "at first", i, OFF, 0, 0);
            int[] rest = {0, 0, -2, 0, 0, -2};
            for (int what = 9; what <= 14; what++) {
                due("rail(" + i + ", " + what + ")", rail(x, i, what), rest[what - 9]);
            }
        }
        due("tick", x.count(3), 0);
        due("total", x.total(), 0);
    }

    /** "droop: .. (50). fall: .. (500). low: .. (90). filter: .. (1). retry: .. (0, 10). budget: .. (99999).": untold. */
    private static void settingsUntold() {
        PowerRails x = asked("rail a source 500 500 0 5 4;rail b source 499 499 0 5 4;rail c source 1001 1001 0 0 9;", 0, 1, 2);
        x.tick(2);
        stands(x, "50 less, 90 of 100: good", 0, UP, 450, 4);
        due("no trip", rail(x, 0, 12), 0);
        stands(x, "50 less, but less than 90 of 100", 1, FALLS, 449, 4);
        due("a trip in the first tick", rail(x, 1, 12), 1);
        x.ask(2, true);
        x.tick(1);
        stands(x, "not to come again", 1, OFF, 0, 0);
        due("never", rail(x, 1, 14), -2);
        x.tick(1);
        stands(x, "500 less", 2, FALLS, 501, 0);
        x.tick(1);
        stands(x, "500 less again", 2, FALLS, 1, 0);
        x.tick(1);
        stands(x, "off", 2, OFF, 0, 0);
        for (int load = 8; load <= 10; load++) {
            StringBuilder all = new StringBuilder();
            for (int i = 0; i < 11; i++) {
                all.append("rail ").append((char) ('a' + i)).append(" source 1 1 0 0 99999;");
            }
            x = asked(all.toString(), 0, 1, 2, 3, 4, 5, 6, 7, 8, 9, 10);
            for (int i = 0; i < 11; i++) {
                x.load(i, i < 10 ? 9999 : load);
            }
            x.tick(1);
            due("a total of 99990 and " + load, x.count(7), load > 9 ? 1 : 0);
        }
    }

    /** "VOLTS 0 .. LEVEL", "one that RISES: RAMP more; LEVEL: it is UP". */
    private static void rising() {
        PowerRails x = asked("rail a source 10 3 0 0 9;rail b source 9 3 0 0 9;rail c source 1 9999 0 0 9;"
            + "rail d source 9999 9999 0 0 9;rail e source 9999 9998 0 0 9;", 0, 1, 2, 3, 4);
        int[][] volts = {{3, 6, 9, 10, 10}, {3, 6, 9, 9, 9}, {1, 1, 1, 1, 1}, {9999, 9999, 9999, 9999, 9999},
            {9998, 9999, 9999, 9999, 9999}};
        int[] upIn = {4, 3, 1, 1, 2};
        for (int t = 1; t <= 5; t++) {
            x.tick(1);
            for (int i = 0; i < 5; i++) {
                stands(x, "tick " + t, i, t < upIn[i] ? RISES : UP, volts[i][t - 1], 0);
            }
        }
        // The slowest soft start ends in the last tick there is.
        x = asked("rail a source 9999 1 0 0 9;", 0);
        Checks.pass(x, 9998);
        stands(x, "tick 9998", 0, RISES, 9998, 0);
        due("the last tick", x.tick(1), 9999);
        stands(x, "tick 9999", 0, UP, 9999, 0);
    }

    /** "GOOD: UP, and VOLTS times 100 no less than LEVEL times low." */
    private static void good() {
        for (int low = 65; low <= 68; low++) {
            PowerRails x = asked("rail a source 3 3 0 5 4;droop 1;filter 9;low " + low + ";", 0);
            x.tick(2);
            stands(x, "2 of 3", 0, UP, 2, 3);
            due("good by low " + low, rail(x, 0, 10), low <= 66 ? 1 : 0);
            due("good rails by low " + low, x.count(6), low <= 66 ? 1 : 0);
        }
        PowerRails x = asked("rail a source 100 100 0 5 4;droop 1;filter 9;low 100;", 0);
        x.tick(1);
        due("all of it, by low 100", rail(x, 0, 10), 1);
        x.tick(1);
        due("99 of 100, by low 100", rail(x, 0, 10), 0);
        for (int droop = 99; droop <= 100; droop++) {
            x = asked("rail a source 100 100 0 5 4;filter 9;low 1;droop " + droop + ";", 0);
            x.tick(2);
            due("volts", rail(x, 0, 7), 100 - droop);
            due("good by low 1", rail(x, 0, 10), droop == 99 ? 1 : 0);
        }
        // One that rises or falls isn't, whatever its volts; one in the row is.
        x = asked("rail a source 100 99 0 0 9;low 1;fall 1;", 0);
        x.tick(1);
        due("99 of 100, rising", rail(x, 0, 10), 0);
        x.tick(1);
        x.ask(0, true);
        due("in the row", rail(x, 0, 10), 1);
        x.tick(1);
        stands(x, "it falls from all of it", 0, FALLS, 100, 0);
        due("falling", rail(x, 0, 10), 0);
    }

    /** "A RAIL HANGS on its PARENT, on what it NEEDS, on what these HANG on." */
    private static void hangsOnAll() {
        StringBuilder all = new StringBuilder("rail a source 1 1 0 0 1;");
        for (int i = 1; i < 12; i++) {
            all.append("rail ").append((char) ('a' + i)).append(' ');
            all.append(i % 2 == 0 ? "source" : "" + (char) ('a' + i - 1)).append(" 1 1 0 0 1;");
        }
        for (int i = 2; i < 12; i += 2) {
            all.append("needs ").append((char) ('a' + i)).append(' ').append((char) ('a' + i - 1)).append(';');
        }
        PowerRails x = Checks.told(all.toString());
        for (int i = 0; i < 12; i++) {
            due("needs of " + i, x.hangs(i, 0), i > 0 && i % 2 == 0 ? 1 << i - 1 : 0);
            due(i + " hangs on", x.hangs(i, 1), (1 << i) - 1);
            due("on " + i + " hang", x.hangs(i, 2), 0xfff & -(2 << i));
        }
        // The other way round: the first one hangs on all behind it.
        x = Checks.told("rail a source 1 1 0 0 1;rail b source 1 1 0 0 1;rail c source 1 1 0 0 1;needs a b;needs b c;");
        due("a hangs on", x.hangs(0, 1), 6);
        due("on c hang", x.hangs(2, 2), 3);
    }

    /** "ASKED ON: one that is OFF WAITS (behind all that WAIT), else nothing more." */
    private static void askedOn() {
        PowerRails x = Checks.told("rail a source 20 10 0 0 9;rail b a 5 5 0 0 9;rail c a 5 5 0 0 9;fall 10;");
        due("off", x.ask(2, false), WAITS);
        due("off, too", x.ask(1, false), WAITS);
        Checks.lined(x, "behind", false, 2, 1);
        due("one that waits", x.ask(2, false), WAITS);
        Checks.lined(x, "its place stays", false, 2, 1);
        x.ask(2, true);
        x.ask(2, false);
        Checks.lined(x, "asked off between it comes behind", false, 1, 2);
        x.ask(1, true);
        x.ask(2, true);
        x.ask(0, false);
        x.tick(1);
        due("one that rises", x.ask(0, false), RISES);
        Checks.lined(x, "it doesn't wait", false);
        due("its tick stays", rail(x, 0, 11), 1);
        x.tick(1);
        due("one that is up", x.ask(0, false), UP);
        Checks.lined(x, "nor does it then", false);
        x.ask(0, true);
        due("one in the row", x.ask(0, false), UP);
        Checks.lined(x, "it stays there", true, 0);
        x.tick(1);
        due("one that falls", x.ask(0, false), FALLS);
        Checks.lined(x, "it doesn't wait either", false);
        x.tick(2);
        stands(x, "it is off in the end", 0, OFF, 0, 0);
        Checks.lined(x, "and stays so", false);
    }

    /** "ASKED OFF: one that WAITS is OFF; one that RISES, is UP: it and all that HANG on it are UNWOUND". */
    private static void askedOff() {
        String text = "rail a source 20 10 0 0 9;rail b a 20 10 0 0 9;rail c b 5 5 0 0 9;fall 10;";
        PowerRails x = Checks.told(text);
        due("one that is off", x.ask(0, true), OFF);
        x.ask(0, false);
        x.ask(1, false);
        due("one that waits", x.ask(0, true), OFF);
        Checks.lined(x, "those that hang on it wait on", false, 1);
        Checks.lined(x, "no row", true);
        x.ask(0, false);
        x.tick(1);
        due("one that rises", x.ask(0, true), RISES);
        Checks.lined(x, "it comes to the row", true, 0);
        Checks.lined(x, "b waits no more", false);
        due("b is off", rail(x, 1, 6), OFF);
        x.tick(1);
        stands(x, "it rose once more and falls", 0, FALLS, 20, 0);
        due("one that falls", x.ask(0, true), FALLS);
        Checks.lined(x, "not to the row", true);
        x.ask(1, false);
        due("what hangs on one that falls", x.ask(0, true), FALLS);
        Checks.lined(x, "waits on", false, 1);
        x.tick(2);
        due("off", rail(x, 0, 6), OFF);
        due("what hangs on one that is off", x.ask(0, true), OFF);
        Checks.lined(x, "waits on, too", false, 1);
    }

    /** "those that RISE, are UP and aren't in the ROW yet come to its end, the one that began to rise latest first". */
    private static void unwound() {
        PowerRails x = asked("rail a source 5 5 0 0 9;rail b a 5 5 0 0 9;rail c a 5 5 0 0 9;rail d c 5 5 0 0 9;"
            + "rail e source 5 5 0 0 9;rail f d 50 5 0 0 9;needs b e;", 0, 1, 2, 3, 5);
        x.tick(3);
        due("b needs e yet", x.why(1), 2);
        x.ask(4, false);
        x.tick(2);
        int[] began = {1, 5, 2, 3, 4, 4};
        for (int i = 0; i < 6; i++) {
            due("began " + i, rail(x, i, 11), began[i]);
        }
        due("f rises", rail(x, 5, 6), RISES);
        x.ask(3, true);
        Checks.lined(x, "f behind d began", true, 5, 3);
        x.ask(0, true);
        Checks.lined(x, "to its end, none twice", true, 5, 3, 1, 2, 0);
        x.ask(0, true);
        Checks.lined(x, "nothing more", true, 5, 3, 1, 2, 0);
        x.ask(4, true);
        Checks.lined(x, "e hangs on none of them", true, 5, 3, 1, 2, 0, 4);
        int[] row = {5, 3, 1, 2, 0, 4};
        for (int k = 0; k < 6; k++) {
            x.tick(1);
            Checks.logged(x, "one a tick", 6 + k, row[k], 3);
            due("left", x.count(5), 5 - k);
        }
    }

    /** All twelve at once, by a guard and by the one that all hang on. */
    private static void allTwelveUnwound() {
        for (int how = 0; how < 3; how++) {
            StringBuilder all = new StringBuilder("rail a source 5 5 0 0 9;");
            for (int i = 1; i < 12; i++) {
                all.append("rail ").append((char) ('a' + i)).append(" a 5 5 0 0 9;");
            }
            PowerRails x = asked(all + "off a;guard a 1;off b;guard l 1;", 0, 1, 2, 3, 4, 5, 6, 7, 8, 9, 10, 11);
            x.tick(2);
            due("all are up", x.count(6), 12);
            if (how == 0) {
                x.ask(0, true);
            } else if (how == 1) {
                x.limit(0, 1);
                x.load(0, 999);
                x.tick(1);
                due("over", rail(x, 0, 9), 1);
            } else {
                x.begin();
            }
            x.tick(1);
            due("all go, how " + how, x.count(5), 11);
            for (int i = 11; i >= 0; i--) {
                Checks.logged(x, "one by one", how == 1 ? 15 - i : 14 - i, i, 3);
                x.tick(1);
            }
            x.tick(1);
            due("none is left", x.count(5) + x.count(6), 0);
        }
    }

    /** "(of one TICK the greater number)". */
    private static void ofOneTick() {
        PowerRails x = asked("rail a source 5 5 0 0 9;rail b a 5 5 0 0 9;rail c a 5 5 0 0 9;rail d a 5 5 0 0 9;", 0, 3, 1, 2);
        x.tick(2);
        x.ask(0, true);
        Checks.lined(x, "not by the order of waiting", true, 3, 2, 1, 0);
    }

    /** "it is not to come AGAIN, its RETRIES are 0": wherever it is; what is UNWOUND only keeps both. */
    private static void askingEndsRetries() {
        for (int how = 0; how < 6; how++) {
            boolean off = how % 2 == 1;
            PowerRails x = asked("rail a source 100 100 0 0 99;rail b a 100 100 0 10 5;droop 50;fall 999;retry 3 5;", 0, 1);
            x.tick(4);
            due("in 5 ticks", rail(x, 1, 14), 5);
            if (how < 2) {
                due("asked, off as it is", x.ask(1, off), off ? OFF : WAITS);
                due("not to come again", rail(x, 1, 14), -2);
                continue;
            }
            x.tick(5);
            due("one retry", rail(x, 1, 13), 1);
            due("up again", rail(x, 1, 6), UP);
            if (how < 4) {
                x.ask(1, off);
                due("asked, up as it is", rail(x, 1, 13), 0);
                continue;
            }
            x.tick(2);
            due("off again", rail(x, 1, 14), 5);
            due("one retry yet", rail(x, 1, 13), 1);
            x.ask(0, off);
            due("asking another one leaves that", rail(x, 1, 14), 5);
            due("and its retries", rail(x, 1, 13), 1);
            x.limit(1, 99);
            x.tick(5);
            due("it comes", rail(x, 1, 6), off ? WAITS : UP);
            due("two retries", rail(x, 1, 13), 2);
            x.ask(0, false);
            x.tick(3);
            x.ask(0, true);
            Checks.lined(x, "both go", true, 1, 0);
            due("one that is unwound keeps its retries", rail(x, 1, 13), 2);
            x.tick(2);
            stands(x, "off", 1, OFF, 0, 0);
            due("it didn't trip now", rail(x, 1, 14), -2);
        }
    }

    /** The same of one that tripped and is in the ROW, or falls, yet. */
    private static void askedAsItGoes() {
        for (int how = 0; how < 4; how++) {
            boolean inRow = how >= 2;
            PowerRails x = asked("rail a source 100 100 0 10 5;rail b a 5 5 0 0 9;droop 50;fall 40;filter 2;low 80;retry 3 5;", 0);
            x.tick(2);
            x.load(0, 99);
            x.tick(1);
            x.ask(1, false);
            x.tick(2);
            due("a trip", rail(x, 0, 12), 1);
            due("b goes first", rail(x, 1, 6), FALLS);
            Checks.lined(x, "a is behind it", true, 0);
            if (!inRow) {
                x.tick(1);
            }
            due("where it is", rail(x, 0, 6), inRow ? UP : FALLS);
            due("untouched it comes again", x.ahead(0, 30, 3) > 0 ? 1 : 0, 1);
            x.ask(0, how % 2 == 1);
            x.tick(6);
            due("off", rail(x, 0, 6), OFF);
            due("asked, it doesn't", rail(x, 0, 14), -2);
            due("ever", x.ahead(0, 300, 3), 0);
        }
    }

    /** "(0) By numbers: one that is to come AGAIN in this TICK": behind all that WAIT; "its RETRIES are one more". */
    private static void comingAgain() {
        PowerRails x = asked("rail p source 10 10 0 0 9;rail a source 200 200 0 10 5;rail b source 100 100 0 10 5;"
            + "rail c source 1 1 0 0 1;needs a p;needs b p;needs c p;fall 100;droop 50;retry 1 4;", 0, 1, 2);
        x.tick(5);
        for (int i = 1; i <= 2; i++) {
            stands(x, "both went", i, OFF, 0, 0);
            due("in 4 ticks", rail(x, i, 14), 4);
        }
        x.ask(0, true);
        x.tick(1);
        x.ask(3, false);
        x.tick(2);
        due("in 1 tick", rail(x, 1, 14), 1);
        due("not yet", rail(x, 1, 13), 0);
        Checks.lined(x, "c waits alone", false, 3);
        x.tick(1);
        Checks.lined(x, "both behind it, by numbers", false, 3, 1, 2);
        Checks.logged(x, "both", 9, 2, 7, 9, 1, 7);
        for (int i = 1; i <= 2; i++) {
            due("no more to come", rail(x, i, 14), -2);
            due("one retry", rail(x, i, 13), 1);
        }
    }

    /** "retry: TIMES 0 .. 9, HOLD 1 .. 99 (0, 10)", "its RETRIES are below TIMES: it is to come AGAIN in HOLD TICKS". */
    private static void timesAndHold() {
        String rail = "rail a source 100 100 0 10 5;droop 50;fall 9999;";
        PowerRails x = asked(rail + "retry 0 1;", 0);
        x.tick(4);
        due("0 times: not", rail(x, 0, 14), -2);
        // Up in tick 1, low and falling in 2, off in 3, again in 4: three ticks each.
        x = asked(rail + "retry 9 1;", 0);
        for (int k = 0; k <= 9; k++) {
            x.tick(2);
            due("trips", rail(x, 0, 12), k + 1);
            due("retries", rail(x, 0, 13), k);
            x.tick(1);
            due("off the " + k + "th time", rail(x, 0, 14), k < 9 ? 1 : -2);
        }
        x.tick(50);
        due("9 times, no more", rail(x, 0, 12), 10);
        x = asked(rail + "retry 1 99;", 0);
        x.tick(3);
        due("in 99", rail(x, 0, 14), 99);
        x.tick(50);
        x.tick(48);
        due("in 1", rail(x, 0, 14), 1);
        stands(x, "off yet", 0, OFF, 0, 0);
        x.tick(1);
        stands(x, "up again", 0, UP, 100, 10);
        x.tick(2);
        due("one time is over", rail(x, 0, 14), -2);
        due("untold, none", rail(asked(rail, 0), 0, 14), -2);
    }

    /** "if it TRIPPED when it last went off": one that was UNWOUND or asked off later doesn't come AGAIN. */
    private static void trippedWhenItLastWent() {
        PowerRails x = asked("rail a source 100 100 0 10 5;rail b a 100 100 0 0 9;droop 50;fall 9999;retry 9 3;filter 2;low 60;", 0, 1);
        x.tick(3);
        due("b is up", rail(x, 1, 6), UP);
        due("a is low in one tick, good in the next", rail(x, 0, 12), 0);
        x.load(0, 0);
        x.limit(0, 1);
        x.tick(2);
        x.load(0, 20);
        x.limit(0, 9);
        x.tick(3);
        due("a trips", rail(x, 0, 12), 1);
        due("b goes first", rail(x, 1, 6), FALLS);
        x.tick(2);
        due("b isn't to come", rail(x, 1, 14), -2);
        due("a is", rail(x, 0, 14), 3);
        x.limit(0, 99);
        x.tick(3);
        due("a came", rail(x, 0, 6), UP);
        due("retries", rail(x, 0, 13), 1);
        x.ask(1, false);
        x.tick(1);
        x.ask(0, true);
        x.tick(3);
        stands(x, "asked off", 0, OFF, 0, 0);
        due("this time it didn't trip", rail(x, 0, 14), -2);
        due("b neither", rail(x, 1, 14), -2);
    }

    /** "wait: it stays for N TICKS, this one the first, then, in the TICK behind these, the next one". */
    private static void waitSteps() {
        for (int n : new int[] {1, 2, 50, 99}) {
            PowerRails x = Checks.told("rail a source 1 1 0 0 1;wait " + n + ";on a;");
            x.begin();
            for (int t = 1; t <= n; t++) {
                x.tick(1);
                due("wait " + n + ", tick " + t, x.sequence(1) * 1000 + x.sequence(2), t);
                due("it runs", x.sequence(0), 1);
                due("a isn't asked", rail(x, 0, 6), OFF);
            }
            x.tick(1);
            due("behind it", rail(x, 0, 11), n + 1);
            due("done", x.sequence(0), 2);
        }
        PowerRails x = Checks.told("wait 1;wait 1;");
        x.begin();
        int[][] at = {{0, 1}, {1, 1}, {2, 0}};
        for (int k = 0; k < 3; k++) {
            due("runs", x.sequence(0), 1);
            x.tick(1);
            due("step", x.sequence(1), at[k][0]);
            due("stay", x.sequence(2), at[k][1]);
        }
        due("done", x.sequence(0), 2);
    }

    /** "guard: if the RAIL is GOOD, the next one; else it stays; is this the Nth TICK of its staying: the SEQUENCE FAILS". */
    private static void guardSteps() {
        for (int n : new int[] {1, 2, 3, 50, 99}) {
            // It takes level ticks to be up: behind the tick ahead of the nth, it is good in that.
            for (int level = n - 1; level <= n; level++) {
                PowerRails x = Checks.told("rail a source " + Math.max(1, level) + " 1 0 0 1;on a;guard a " + n + ";");
                if (level == 0) {
                    x.ask(0, false);
                    x.tick(1);
                }
                int first = x.count(3);
                x.begin();
                for (int t = 1; t < n; t++) {
                    x.tick(1);
                    due("guard " + n + ", it stays at", x.sequence(1), 1);
                    due("for", x.sequence(2), t);
                    due("it runs", x.sequence(0), 1);
                }
                x.tick(1);
                due("guard " + n + ", level " + level, x.sequence(0), level < n ? 2 : 3);
                due("step", x.sequence(1), level < n ? 2 : 1);
                due("stay", x.sequence(2), level < n ? 0 : n);
                int row = x.count(5) + (rail(x, 0, 6) == FALLS ? 1 : 0);
                due("unwound", row, level < n || n == 1 ? 0 : 1);
                due("if it waits, off", rail(x, 0, 6), level < n ? UP : n == 1 ? OFF : FALLS);
                Checks.logged(x, "in that tick", level < n || n == 1 ? first + n : n, level < n || n == 1 ? -2 : 0);
            }
        }
    }

    /** "guard: if the RAIL is GOOD": one that is up, but low, isn't; one that is just good is. */
    private static void guardOfALowRail() {
        for (int low = 97; low <= 98; low++) {
            PowerRails x = asked("rail a source 100 100 0 10 5;filter 9;droop 1;guard a 1;low " + low + ";", 0);
            x.tick(4);
            due("volts", rail(x, 0, 7), 97);
            x.begin();
            x.tick(1);
            due("up, 97 of 100 by low " + low, x.sequence(0), low == 97 ? 2 : 3);
            due("its state", rail(x, 0, 6), low == 97 ? UP : FALLS);
        }
    }

    /** "(0) .. (1)": one that comes AGAIN in a TICK waits ahead of what STEPS ask in it, and is then ASKED by them. */
    private static void againAheadOfSteps() {
        for (int how = 0; how < 3; how++) {
            String last = how == 0 ? "wait 9;" : how == 1 ? "on a;" : "off a;";
            PowerRails x = asked("rail a source 100 100 0 10 5;rail b source 5 5 0 0 9;fall 9999;retry 9 3;on b;" + last, 0);
            x.tick(5);
            due("in 1", rail(x, 0, 14), 1);
            x.begin();
            x.tick(1);
            due("retries", rail(x, 0, 13), how == 0 ? 1 : 0);
            due("state", rail(x, 0, 6), how == 2 ? OFF : UP);
            if (how == 0) {
                Checks.logged(x, "ahead of b", 6, 1, 1, 6, 0, 1, 6, 1, 0, 6, 0, 0, 6, 0, 7);
            } else if (how == 1) {
                Checks.logged(x, "ahead of b", 6, 1, 1, 6, 0, 1, 6, 1, 0, 6, 0, 0, 6, -2, 6, 6, 0, 7);
            } else {
                Checks.logged(x, "it came and went", 6, 1, 1, 6, 1, 0, 6, -2, 6, 6, 0, 7);
            }
        }
    }

    /** "all that RISE, are UP, WAIT are UNWOUND (as above, together)". */
    private static void guardUnwindsAll() {
        PowerRails x = Checks.told("rail a source 5 5 0 0 9;rail b source 50 5 0 0 9;rail c a 5 5 0 0 9;rail d b 5 5 0 0 9;"
            + "rail e source 5 5 0 0 9;rail f source 9 5 0 0 9;fall 1;on e;wait 1;off e;on c;on d;on b;wait 1;on a;guard d 3;");
        x.begin();
        x.tick(4);
        int[] states = {UP, RISES, UP, WAITS, FALLS, OFF};
        for (int i = 0; i < 6; i++) {
            due("state of " + i, rail(x, i, 6), states[i]);
        }
        due("it runs", x.sequence(0), 1);
        x.ask(5, false);
        x.tick(1);
        due("it failed", x.sequence(0), 3);
        due("d is off", rail(x, 3, 6), OFF);
        due("f, too, ahead of its rising", rail(x, 5, 6), OFF);
        Checks.lined(x, "none waits", false);
        Checks.lined(x, "behind the latest", true, 0, 1);
        due("c fell first", rail(x, 2, 6), FALLS);
        due("e falls on", rail(x, 4, 6), FALLS);
        due("no trip", x.count(7), 0);
        Checks.logged(x, "failed once", 5, 2, 3, 5, -2, 5);
        x.tick(1);
        due("it runs no more", x.sequence(2), 3);
    }

    /** "Behind the last STEP it is DONE (RUNS no more)"; "STEPS from the one it is at": many in one TICK. */
    private static void done() {
        PowerRails x = Checks.told("rail a source 5 5 0 0 9;" + "on a;".repeat(24));
        x.begin();
        x.tick(1);
        due("24 in one tick", x.sequence(0), 2);
        due("behind the last", x.sequence(1), 24);
        due("no stay", x.sequence(2), 0);
        Checks.logged(x, "done ahead of rising", 1, 0, 1, 1, 0, 0, 1, -2, 6);
        x.tick(1);
        due("once only", x.count(8), 3);
        due("begin again", x.begin(), 24);
        due("from the first", x.sequence(1), 0);
        x = Checks.told("rail a source 5 5 0 0 9;wait 1;");
        x.begin();
        x.tick(1);
        due("a wait as the last one runs yet", x.sequence(0), 1);
        x.tick(1);
        due("and is done behind its ticks", x.sequence(0), 2);
        x = Checks.told("rail a source 5 5 0 0 9;");
        due("no steps", x.begin(), -1);
        x.tick(3);
        due("no sequence", x.sequence(0), 0);
        due("nothing in the log", x.count(8), 0);
    }

    /** "(2) .. whose PARENT is the source or GOOD, and what they NEED is GOOD": as it is ahead of (3). */
    private static void whoRises() {
        for (int how = 0; how < 2; how++) {
            String b = how == 0 ? "rail b a 10 10 0 0 9;" : "rail b source 10 10 0 0 9;needs b a;";
            String text = "rail a source 100 100 0 10 5;" + b + "filter 9;droop 50;low 51;";
            PowerRails x = asked(text, 0, 1);
            due("why", x.why(1), how + 1);
            x.tick(1);
            due("a came up behind (2)", rail(x, 1, 6), WAITS);
            due("now it would", x.why(1), 0);
            x.tick(1);
            due("it was good in (2), is low in (3)", rail(x, 0, 7), 50);
            due("so b rose", rail(x, 1, 11), 2);
            x = asked(text, 0);
            x.tick(2);
            x.ask(1, false);
            due("up, but low", x.why(1), how + 1);
            x.tick(1);
            due("it waits", rail(x, 1, 6), WAITS);
            due("up and good", x.why(1), 0);
            x.tick(1);
            due("rising in", rail(x, 1, 11), 4);
        }
        PowerRails four = asked("rail a source 5 5 0 0 9;rail b source 5 5 0 0 9;rail c source 5 5 0 0 9;rail d a 5 5 0 0 9;", 3, 2, 0, 1);
        four.tick(1);
        Checks.logged(four, "in their order, up by numbers", 1, 2, 1, 1, 1, 1, 1, 0, 1, 1, 1, 0, 1, 0, 0, 1, 2, 0);
        Checks.lined(four, "d waits", false, 3);
        // One of several needs is enough to hold it, the parent's word comes first.
        PowerRails x = asked("rail a source 5 5 0 0 9;rail b source 5 5 0 0 9;rail c source 5 5 0 0 9;rail d c 5 5 0 0 9;"
            + "needs d a;needs d b;", 3);
        due("parent and needs", x.why(3), 1);
        x.ask(2, false);
        x.ask(0, false);
        x.tick(2);
        due("one of its needs", x.why(3), 2);
        x.ask(1, false);
        x.tick(1);
        due("none", x.why(3), 0);
        due("one of the source that waits", asked("rail a source 5 5 0 0 9;", 0).why(0), 0);
    }

    /** "UP: if it was OVER in the TICK ahead: droop less (0 at least); else RAMP more; LEVEL at most." */
    private static void drooping() {
        for (int droop : new int[] {1, 499, 500, 501, 999}) {
            PowerRails x = asked("rail a source 500 200 0 100 1;low 1;filter 9;droop " + droop + ";", 0);
            x.tick(1);
            stands(x, "over as it rises", 0, RISES, 200, 40);
            x.tick(1);
            stands(x, "it rises on", 0, RISES, 400, 80);
            x.tick(1);
            stands(x, "up", 0, UP, 500, 100);
            x.tick(1);
            int then = Math.max(0, 500 - droop);
            stands(x, "droop " + droop, 0, UP, then, then / 5);
            x.tick(1);
            boolean over = then / 5 > 1;
            int last = over ? Math.max(0, then - droop) : Math.min(500, then + 200);
            stands(x, "droop " + droop + ", once more", 0, UP, last, last / 5);
        }
    }

    /** "FALLS: fall less; 0: OFF". */
    private static void falling() {
        int[][] all = {{100, 100, 0}, {100, 99, 1}, {100, 50, 50}, {100, 9999, 0}, {1, 1, 0}, {9999, 9999, 0}, {9999, 9998, 1}};
        for (int[] one : all) {
            PowerRails x = asked("rail a source " + one[0] + " 9999 0 5 99;fall " + one[1] + ";", 0);
            x.tick(1);
            x.ask(0, true);
            x.tick(1);
            stands(x, "it begins to fall behind (3) and (4)", 0, FALLS, one[0], 5);
            x.tick(1);
            stands(x, "fall " + one[1], 0, one[2] == 0 ? OFF : FALLS, one[2], 0);
            x.tick(1);
            stands(x, "fall " + one[1] + ", once more", 0, OFF, 0, 0);
            due("off once", x.count(8), 4);
        }
        // Without volts it falls all the same.
        PowerRails x = asked("rail a source 100 100 0 9 1;droop 999;fall 1;", 0);
        x.tick(2);
        stands(x, "no volts", 0, FALLS, 0, 0);
        x.tick(1);
        stands(x, "nothing to fall", 0, OFF, 0, 0);
        Checks.logged(x, "off behind falling", 3, 0, 4);
    }

    /** "LOAD times VOLTS by LEVEL, downwards, if it RISES, is UP; CHARGE times what VOLTS rose in this TICK by 16, downwards". */
    private static void draws() {
        int[][] charges = {{15, 1, 0}, {16, 1, 1}, {31, 1, 1}, {32, 1, 2}, {99, 9999, 61868}, {1, 15, 0}, {1, 16, 1}};
        for (int[] one : charges) {
            PowerRails x = asked("rail a source 9999 " + one[1] + " " + one[0] + " 0 99999;", 0);
            x.tick(1);
            due("charge " + one[0] + ", ramp " + one[1], rail(x, 0, 8), one[2]);
            due("total", x.total(), one[2]);
        }
        PowerRails x = asked("rail a source 3 2 0 1 9;rail b source 3 1 0 2 9;rail c source 3 2 8 1 9;", 0, 1, 2);
        x.tick(1);
        stands(x, "1 times 2 by 3", 0, RISES, 2, 0);
        stands(x, "2 times 1 by 3", 1, RISES, 1, 0);
        stands(x, "each by itself downwards", 2, RISES, 2, 0 + 1);
        x.tick(1);
        stands(x, "all of it", 0, UP, 3, 1);
        stands(x, "2 times 2 by 3", 1, RISES, 2, 1);
        stands(x, "rose by 1 only: 8 by 16", 2, UP, 3, 1);
        x = asked("rail a source 9999 9999 0 999 99999;", 0);
        x.load(0, 9999);
        x.tick(2);
        due("the greatest load", rail(x, 0, 8), 9999);
        // A fall isn't a rise, nor is a droop.
        x = asked("rail a source 1000 1000 99 100 99;droop 100;fall 100;low 1;", 0);
        x.tick(2);
        stands(x, "a droop", 0, UP, 900, 90);
        x.tick(1);
        stands(x, "what it rises again takes charge", 0, UP, 1000, 100 + 99 * 100 / 16);
        x.ask(0, true);
        x.tick(2);
        stands(x, "a fall", 0, FALLS, 800, 0);
    }

    /** "and DRAWS of those whose PARENT it is", "TOTAL: DRAWS of those under the source". */
    private static void drawsOfChildren() {
        StringBuilder all = new StringBuilder("rail a source 1 1 0 1 99999;");
        for (int i = 1; i < 12; i++) {
            all.append("rail ").append((char) ('a' + i)).append(' ').append((char) ('a' + i - 1)).append(" 1 1 0 1 99999;");
        }
        PowerRails x = Checks.told(all.toString());
        for (int i = 0; i < 12; i++) {
            x.ask(i, false);
            x.tick(1);
        }
        for (int i = 0; i < 12; i++) {
            due("draw of " + i, rail(x, i, 8), 12 - i);
        }
        due("total of one under the source", x.total(), 12);
        for (int i = 0; i < 12; i++) {
            x.load(i, 9999);
        }
        x.tick(1);
        due("the greatest total", x.total(), 12 * 9999);
        // What hangs on one that fell, and came up as that stood in the row, draws on.
        x = asked("rail a source 5 5 0 0 9;rail b a 5 5 0 7 9;", 0);
        x.tick(1);
        x.ask(0, true);
        x.ask(1, false);
        x.tick(1);
        stands(x, "a falls", 0, FALLS, 5, 7);
        stands(x, "b is up", 1, UP, 5, 7);
        x.tick(1);
        stands(x, "a is off", 0, OFF, 0, 7);
        stands(x, "b is up yet", 1, UP, 5, 7);
        due("total", x.total(), 7);
        // Needs bring no draw.
        x = asked("rail a source 1 1 0 1 9;rail b source 1 1 0 2 9;needs a b;", 0, 1);
        x.tick(2);
        due("draw of what is needed", rail(x, 1, 8), 2);
        due("total of two", x.total(), 3);
    }

    /** "OVER: DRAW is above LIMIT": one as great isn't; of the latest tick. */
    private static void over() {
        for (int limit = 9; limit <= 11; limit++) {
            PowerRails x = asked("rail a source 10 10 0 10 " + limit + ";droop 1;", 0);
            x.tick(1);
            due("limit " + limit, rail(x, 0, 9), limit < 10 ? 1 : 0);
            x.tick(1);
            due("volts behind it", rail(x, 0, 7), limit < 10 ? 9 : 10);
        }
        PowerRails x = asked("rail a source 1 1 0 1 1;rail b a 1 1 0 99 99;droop 1;low 1;filter 9;", 0, 1);
        x.tick(2);
        due("by what hangs under it", rail(x, 0, 9), 1);
        due("not by itself", rail(x, 1, 9), 0);
        x = Checks.told("rail a source 1 1 0 999 99999;");
        x.ask(0, false);
        x.load(0, 9999);
        x.tick(1);
        due("the greatest load", rail(x, 0, 9), 0);
    }

    /** "(5) .. UP and not GOOD behind (3) for filter TICKS in a row (this one, too), not in the ROW: it TRIPS". */
    private static void filter() {
        for (int n = 1; n <= 9; n++) {
            PowerRails x = asked("rail a source 1000 1000 0 999 1;low 99;droop 20;fall 9999;retry 1 1;filter " + n + ";", 0);
            x.tick(n);
            due("filter " + n + ": low for one less", rail(x, 0, 12), 0);
            due("up", rail(x, 0, 6), UP);
            x.tick(1);
            due("filter " + n + ": low for as many", rail(x, 0, 12), 1);
            due("falls", rail(x, 0, 6), FALLS);
            // Coming again it begins to count anew.
            x.tick(2);
            due("up again", rail(x, 0, 6), UP);
            x.tick(n - 1 > 0 ? n - 1 : 50);
            due("filter " + n + ": counted anew", rail(x, 0, 12), n == 1 ? 2 : 1);
        }
        // A good tick between.
        PowerRails x = asked("rail a source 100 100 0 10 9;low 100;droop 1;filter 2;", 0);
        x.tick(50);
        due("low in each second tick", rail(x, 0, 12), 0);
        // In the row it doesn't trip, however long.
        x = asked("rail a source 100 100 0 99 1;rail b a 100 100 0 0 9;rail c a 100 100 0 0 9;rail d a 100 100 0 0 9;"
            + "low 90;droop 3;filter 2;fall 1;", 0, 1, 2, 3);
        x.tick(4);
        due("not low yet", x.count(6), 4);
        x.ask(0, true);
        x.tick(1);
        due("low", rail(x, 0, 10), 0);
        Checks.lined(x, "it is in the row", true, 2, 1, 0);
        x.tick(2);
        due("low for three ticks, no trip", rail(x, 0, 12), 0);
        due("up yet", rail(x, 0, 6), UP);
    }

    /** "the SEQUENCE FAILS, if it RUNS (without more)". */
    private static void tripsFailTheSequence() {
        String text = "rail a source 100 100 0 10 5;rail b source 100 10 0 0 9;rail c b 1 1 0 0 1;low 100;droop 1;fall 1;";
        PowerRails x = Checks.told(text + "on a;on b;on c;wait 9;");
        x.begin();
        x.tick(1);
        due("it runs", x.sequence(0), 1);
        x.tick(1);
        due("it failed", x.sequence(0), 3);
        due("where it was", x.sequence(1), 3);
        due("for as long", x.sequence(2), 2);
        due("b rises on", rail(x, 1, 6), RISES);
        due("c waits on", rail(x, 2, 6), WAITS);
        Checks.lined(x, "a went off the row", true);
        Checks.logged(x, "in their order", 2, 0, 3, 2, -2, 5, 2, 0, 2);
        x = Checks.told(text + "on a;");
        x.begin();
        x.tick(2);
        due("one that is done doesn't", x.sequence(0), 2);
        Checks.logged(x, "no failing", 2, 0, 3, 2, 0, 2, 1, 0, 1);
        x = asked(text, 0);
        x.tick(2);
        due("one that never ran doesn't", x.sequence(0), 0);
    }

    /** "If TOTAL is above budget: the one that began to rise latest .. TRIPS likewise": one a TICK, none of the ROW. */
    private static void budget() {
        for (int budget = 9; budget <= 11; budget++) {
            PowerRails x = asked("rail a source 10 10 0 10 99;budget " + budget + ";", 0);
            x.tick(1);
            due("budget " + budget, rail(x, 0, 12), budget < 10 ? 1 : 0);
        }
        PowerRails x = asked("rail a source 10 10 0 10 99;rail b source 10 5 0 0 99;rail c a 10 10 0 0 99;budget 1;fall 1;", 0, 1);
        x.tick(1);
        due("of one tick the greater number, though it draws nothing", rail(x, 1, 12), 1);
        due("one that rises trips, too", rail(x, 1, 7), 5);
        due("no other in that tick", x.count(7), 1);
        x.ask(2, false);
        x.tick(1);
        due("c began latest, in this tick", rail(x, 2, 12), 1);
        due("a waits for the next", rail(x, 0, 12), 0);
        x.tick(1);
        due("a", rail(x, 0, 12), 1);
        x.tick(1);
        due("none is left", x.count(7), 3);
        // Those that only wait, fall or stand in the row don't.
        x = asked("rail a source 10 10 0 5 99;rail b source 10 10 0 5 99;rail c source 10 10 0 5 99;"
            + "rail d source 1 1 0 0 1;needs d c;budget 14;fall 1;", 0);
        x.tick(1);
        x.ask(1, false);
        x.ask(2, false);
        x.tick(1);
        due("c", rail(x, 2, 12), 1);
        x.ask(3, false);
        x.ask(1, true);
        x.load(0, 15);
        x.tick(1);
        due("a, though three came later", rail(x, 0, 12), 1);
        due("none of these", x.count(7), 2);
        Checks.lined(x, "it is behind b", true, 0);
        // None is left to trip: the sequence runs on.
        x = asked("rail a source 10 10 0 10 99;rail b source 10 10 0 10 99;budget 20;fall 1;wait 9;", 0, 1);
        x.tick(1);
        x.ask(0, true);
        x.ask(1, true);
        x.load(0, 99);
        x.begin();
        x.tick(1);
        due("109 are above 20", x.total(), 109);
        due("no trip", x.count(7), 0);
        due("it runs", x.sequence(0), 1);
        // By low and by budget in one tick.
        x = asked("rail a source 100 100 0 50 40;rail b source 100 100 0 10 99;low 100;droop 1;budget 58;", 0, 1);
        x.tick(1);
        due("60 are above 58", x.count(7), 1);
        due("b", rail(x, 1, 12), 1);
        x.tick(1);
        due("a is low, 59 are above it, but none is left", x.count(7), 2);
        due("a once", rail(x, 0, 12), 1);
        x = asked("rail a source 100 100 0 10 99;rail b source 100 100 0 50 40;low 100;droop 1;budget 60;", 0);
        x.tick(1);
        x.ask(1, false);
        x.tick(1);
        x.load(0, 12);
        x.tick(1);
        due("the latest is low: so another one by the budget", x.count(7), 2);
        Checks.logged(x, "in this order", 3, 1, 3, 3, 0, 2, 3, 1, 2);
        x = Checks.told("rail a source 1 1 0 0 99999;budget 999999;");
        x.ask(0, false);
        x.load(0, 9999);
        x.tick(2);
        due("the greatest budget", x.count(7), 0);
    }

    /** "(6) The first of the ROW, if there is one, goes off it and FALLS": one a TICK, in the TICK in which it came. */
    private static void rowByOnes() {
        PowerRails x = asked("rail a source 10 10 0 0 9;rail b source 10 10 0 0 9;fall 9999;", 0, 1);
        x.tick(1);
        Checks.lined(x, "an empty row", true);
        x.tick(1);
        due("nothing falls", x.count(8), 4);
        x.ask(0, true);
        x.ask(1, true);
        x.tick(1);
        due("the first", rail(x, 0, 6), FALLS);
        due("the second stays", rail(x, 1, 6), UP);
        Checks.lined(x, "it is alone", true, 1);
        x.tick(1);
        due("off", rail(x, 0, 6), OFF);
        due("the second", rail(x, 1, 6), FALLS);
        Checks.lined(x, "empty again", true);
        x.tick(1);
        due("all off", rail(x, 1, 6), OFF);
    }

    public static void main(String[] args) {
        atFirst();
        settingsUntold();
        rising();
        good();
        hangsOnAll();
        askedOn();
        askedOff();
        unwound();
        allTwelveUnwound();
        ofOneTick();
        askingEndsRetries();
        askedAsItGoes();
        comingAgain();
        timesAndHold();
        trippedWhenItLastWent();
        waitSteps();
        guardSteps();
        guardOfALowRail();
        againAheadOfSteps();
        guardUnwindsAll();
        done();
        whoRises();
        drooping();
        falling();
        draws();
        drawsOfChildren();
        over();
        filter();
        tripsFailTheSequence();
        budget();
        rowByOnes();
        Checks.finish("TickEdgesTest");
    }
}
