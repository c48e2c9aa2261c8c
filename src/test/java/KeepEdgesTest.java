/**
 * The boundaries of undoing and of the image: Terms 4, promises 31 to 33. One method for each promise or sentence;
 * the sentence stands above it.
 */
public final class KeepEdgesTest {
    private static final String TEXT = "rail a source 100 50 16 10 50;rail b a 100 100 0 10 99;rail c b 10 10 0 1 9;"
        + "needs c a;low 80;droop 10;filter 3;fall 30;retry 2 3;seed 9;on a;on b;on c;guard c 9;wait 2;off b;wait 9;";

    /** It trips, falls and comes again, if b may draw 5 alone; its sequence stays. */
    private static PowerRails tripping() {
        PowerRails x = Checks.told(TEXT.replace("guard c 9", "wait 99"));
        x.begin();
        x.limit(1, 5);
        x.limit(0, 21);
        return x;
    }

    private static void due(String call, long got, long want) {
        Checks.due(call, got, want);
    }

    /** "can be undone, the latest first (20 at most)", "how many are left; NONE: none": for each number of calls. */
    private static void twentyAtMost() {
        for (int calls : new int[] {0, 1, 2, 19, 20, 21, 22, 39, 40, 41, 60, 61}) {
            PowerRails x = Checks.told("rail a source 1 1 0 0 9;");
            for (int k = 1; k <= calls; k++) {
                x.load(0, k);
                due("what can be undone", x.count(9), Math.min(20, k));
            }
            int left = Math.min(20, calls);
            for (int k = 0; k < Math.min(20, calls); k++) {
                left--;
                due("undo", x.undo(), left);
                due("left", x.count(9), left);
                due("the latest first", Checks.rail(x, 0, 4), calls - 1 - k);
            }
            for (int k = 0; k < 3; k++) {
                due("no more of " + calls, x.undo(), -1);
                due("it stays", Checks.rail(x, 0, 4), Math.max(0, calls - 20));
                due("none left", x.count(9), 0);
            }
            // Behind it there is room for twenty again, wherever the row began.
            for (int k = 1; k <= 25; k++) {
                x.limit(0, 1000 + k);
            }
            for (int k = 19; k >= 0; k--) {
                due("undo again", x.undo(), k);
                due("its limit", Checks.rail(x, 0, 5), 1000 + 5 + k);
            }
            due("and no more", x.undo(), -1);
        }
        due("of a new object", new PowerRails().undo(), -1);
    }

    /** Undone between other calls: what was undone makes room, none goes twice. */
    private static void undoneBetween() {
        PowerRails x = Checks.told("rail a source 1 1 0 0 9;");
        int[] loads = new int[200];
        int kept = 0;
        int can = 0;
        for (int k = 1; k <= 119; k++) {
            if (k % 3 == 0 && can > 0) {
                kept--;
                can--;
                due("undo", x.undo(), can);
                due("its load", Checks.rail(x, 0, 4), loads[kept]);
            } else {
                loads[kept] = Checks.rail(x, 0, 4);
                x.load(0, k);
                kept++;
                can = Math.min(20, can + 1);
            }
            due("what can be", x.count(9), can);
        }
        due("twenty", can, 20);
    }

    /** "Each call of tick, ask (whatever comes of it), begin, load, limit that isn't refused": those and no other. */
    private static void whichCalls() {
        PowerRails x = Checks.told(TEXT);
        int can = 0;
        x.ask(0, true);
        due("ask off of one that is off", x.count(9), ++can);
        x.ask(0, false);
        x.ask(0, false);
        can += 2;
        due("ask on of one that waits", x.count(9), can);
        x.load(1, 10);
        due("a load as it is", x.count(9), ++can);
        x.limit(1, 99);
        due("a limit as it is", x.count(9), ++can);
        x.begin();
        due("begin", x.count(9), ++can);
        x.tick(50);
        due("50 ticks", x.count(9), ++can);
        x.begin();
        due("begin again", x.count(9), ++can);
        due("begin refused", x.begin(), -2);
        due("ask refused", x.ask(3, true), -1);
        due("tick refused", x.tick(51), -1);
        due("load refused", x.load(0, -1), -1);
        due("limit refused", x.limit(0, 0), -1);
        due("none of the refused", x.count(9), can);
        Checks.feed(x, "on q;");
        x.text(21);
        x.text(5);
        x.fault(0);
        x.keep();
        x.quiet();
        x.peak(300);
        x.ahead(0, 300, 0);
        x.leastLimit(0);
        x.ifLoad(0, 9999);
        x.ifOff(0);
        x.bestOff(60);
        x.chance(0, 200, 9999, 0);
        x.heat();
        x.order(0);
        x.ring(0);
        due("no other", x.count(9), can);
        for (int left = can - 1; left >= 0; left--) {
            due("undo", x.undo(), left);
        }
        Checks.same("undone", Checks.picture(x), Checks.picture(Checks.told(TEXT)));
        PowerRails late = Checks.told(TEXT);
        Checks.pass(late, 9999);
        due("ticks beyond 9999", late.tick(1), -2);
        due("aren't one", late.undo(), 19);
        due("the call ahead is", late.count(3), 9950);
    }

    /** "(TICKS of one call together)". */
    private static void ticksTogether() {
        for (int n : new int[] {1, 2, 49, 50}) {
            PowerRails x = Checks.told(TEXT);
            x.begin();
            String before = Checks.whole(x);
            due("ticks", x.tick(n), n);
            due("one call", x.count(9), 2);
            due("undo", x.undo(), 1);
            Checks.same("undone " + n, Checks.whole(x), before);
        }
    }

    /** Undone is all that a call changed, what is seen of it later alone with it: at each tick of a long run. */
    private static void allIsUndone() {
        PowerRails x = tripping();
        for (int k = 0; k < 60; k++) {
            String before = Checks.whole(x);
            int can = x.count(9);
            int calls = 1 + k % 4;
            for (int c = 0; c < calls; c++) {
                due("a call", change(x, k + 7 * c) >= 0 ? 1 : 0, 1);
            }
            for (int c = 0; c < calls; c++) {
                x.undo();
            }
            // Beyond twenty the oldest ones are gone, all else is back.
            String wanted = before.replace("\nundone " + can + " ", "\nundone " + (Math.min(20, can + calls) - calls) + " ");
            Checks.same("undone at " + k, Checks.whole(x), wanted);
            change(x, k * 5);
        }
        due("it tripped once more than it came again", Checks.rail(x, 1, 12), 3);
    }

    /** What doesn't show: for how many ticks it has been low, whether it was over, whether it went by its own trip. */
    private static void whatDoesNotShow() {
        PowerRails x = Checks.told("rail a source 100 100 0 10 1;low 95;droop 3;filter 3;fall 50;retry 1 2;");
        x.ask(0, false);
        x.tick(4);
        due("low for two ticks, so it trips in the next", x.ahead(0, 1, 3), 1);
        x.keep();
        x.load(0, 0);
        x.tick(1);
        due("it tripped", Checks.rail(x, 0, 12), 1);
        x.tick(50);
        x.undo();
        x.undo();
        x.undo();
        due("undone: in the next", x.ahead(0, 1, 3), 1);
        x.tick(1);
        due("so it does", Checks.rail(x, 0, 12), 1);
        x.undo();
        x.ask(0, true);
        x.tick(50);
        x.back();
        due("back: in the next", x.ahead(0, 1, 3), 1);
        x.tick(1);
        due("so it does, too", Checks.rail(x, 0, 12), 1);
        x.keep();
        x.ask(0, false);
        x.tick(2);
        due("asked, it isn't to come again", Checks.rail(x, 0, 14), -2);
        x.back();
        x.tick(2);
        due("back: not asked, it is", Checks.rail(x, 0, 14), 2);
        x.ask(0, true);
        x.undo();
        due("undone, it is", Checks.rail(x, 0, 14), 2);
        x.tick(2);
        due("it came", Checks.rail(x, 0, 13), 1);
        // A tick of its being low that was undone doesn't count; nor does one that is only ahead.
        x = Checks.told("rail a source 100 100 0 10 1;low 95;droop 3;filter 3;");
        x.ask(0, false);
        x.tick(3);
        for (int k = 0; k < 5; k++) {
            x.tick(1);
            due("no trip in the second", Checks.rail(x, 0, 12), 0);
            x.undo();
            due("none ahead in 1", x.ahead(0, 1, 3), 0);
            due("one ahead in 2", x.ahead(0, 2, 3), 1);
        }
    }

    /** Behind more entries than are kept: those that went for what is undone are there again. */
    private static void logOfMoreThanKept() {
        PowerRails x = Checks.told("rail a source 1 1 0 0 9;");
        for (int round = 0; round < 25; round++) {
            String before = Checks.picture(x);
            x.keep();
            for (int more = 0; more < 6; more++) {
                x.ask(0, more % 2 == 1);
                x.tick(2);
            }
            due("new entries", x.log(0, 0) > x.count(3) - 12 ? 1 : 0, 1);
            for (int more = 0; more < 12; more++) {
                x.undo();
            }
            Checks.same("undone in round " + round, Checks.picture(x), before);
            for (int more = 0; more < 6; more++) {
                x.ask(0, more % 2 == 1);
                x.tick(2);
            }
            x.back();
            Checks.same("back in round " + round, Checks.picture(x), before);
            x.ask(0, round % 2 == 1);
            x.tick(2);
        }
        due("a full log", x.count(8), 40);
    }

    private static int change(PowerRails x, int k) {
        switch (k % 5) {
            case 0: return x.tick(1);
            case 1: return x.ask(k % 3, k % 4 == 1);
            case 2: return x.load(k % 3, k);
            case 3: return x.tick(1 + k % 4);
            default: return x.limit(k % 3, 3 + k);
        }
    }

    /** "An IMAGE keeps all but ..", "All is as in the IMAGE (nothing to undo then; it stays)": at each tick of a run. */
    private static void imageKeepsAll() {
        PowerRails x = tripping();
        for (int k = 0; k < 60; k++) {
            int tick = x.count(3);
            due("keep", x.keep(), tick);
            String kept = Checks.whole(x);
            int can = x.count(9);
            for (int c = 0; c < 4; c++) {
                change(x, k + 7 * c);
            }
            due("back", x.back(), tick);
            due("nothing to undo", x.count(9), 0);
            due("undo", x.undo(), -1);
            Checks.same("back at " + k, Checks.whole(x), kept.replace("\nundone " + can + " ", "\nundone 0 "));
            change(x, k * 5);
            due("it stays", x.back(), tick);
            change(x, k * 5);
        }
        due("it tripped once more than it came again", Checks.rail(x, 1, 12), 3);
    }

    /** "all but the TAPE, the FAULT, what can be undone". */
    private static void imageKeepsNot() {
        PowerRails x = Checks.told(TEXT);
        x.tick(3);
        Checks.tell(x, "on q;");
        Checks.feed(x, "wait 1;");
        x.keep();
        due("keeping leaves what can be undone", x.count(9), 1);
        Checks.feed(x, "wait 1;");
        due("the tape", x.count(10), 40);
        due("a text without its stop", x.text(6), -1);
        Checks.feed(x, " ".repeat(60));
        x.tick(5);
        due("back", x.back(), 3);
        due("the tape is that of now", x.count(10), 60);
        due("so is the fault", x.fault(0), 1);
        due("and its place", x.fault(1), 6);
        due("what could be undone is gone", x.count(9), 0);
        due("the tape can be told", x.text(60), 0);
    }

    /** "An IMAGE is kept (in place of one ahead): the TICK." */
    private static void inPlaceOfOneAhead() {
        PowerRails x = Checks.told(TEXT);
        due("at first", x.keep(), 0);
        x.tick(7);
        due("another one", x.keep(), 7);
        due("at once again", x.keep(), 7);
        x.tick(2);
        due("the latter", x.back(), 7);
        x.undo();
        due("not the former", x.back(), 7);
        Checks.pass(x, 9999 - 7);
        due("the last tick", x.keep(), 9999);
        x.undo();
        due("undone", x.count(3) < 9999 ? 1 : 0, 1);
        due("back to it", x.back(), 9999);
        due("no tick behind it", x.tick(1), -2);
    }

    /** "NONE: there is none": of a new object, of a new text; a faulty one, a -2 and undoing leave it. */
    private static void noImage() {
        PowerRails x = new PowerRails();
        due("of a new object", x.back(), -1);
        due("one of it", x.keep(), 0);
        x.tick(4);
        due("back", x.back(), 0);
        Checks.tell(x, TEXT);
        due("a text takes it", x.back(), -1);
        x.tick(2);
        String before = Checks.whole(x);
        due("and it changes nothing", x.back(), -1);
        Checks.same("no image", Checks.whole(x), before);
        x.keep();
        x.undo();
        Checks.tell(x, "on q;");
        x.text(1);
        due("it is left", x.back(), 2);
        x.text(0);
        due("an empty text takes it, too", x.back(), -1);
    }

    /** "The latest is undone": behind back() and text() there is none; behind an undone call it can be called again. */
    private static void undoneAndDoneAgain() {
        PowerRails x = Checks.told(TEXT);
        x.begin();
        x.tick(9);
        String nine = Checks.whole(x);
        for (int k = 0; k < 5; k++) {
            due("undo", x.undo(), 1);
            due("the tick", x.tick(9), 9);
            Checks.same("done again", Checks.whole(x), nine);
        }
        x.undo();
        due("begin undone", x.undo(), 0);
        due("begin again", x.begin(), 7);
        x.tick(9);
        Checks.same("all done again", Checks.whole(x), nine);
        Checks.tell(x, TEXT);
        due("a new text", x.undo(), -1);
    }

    public static void main(String[] args) {
        twentyAtMost();
        undoneBetween();
        whichCalls();
        ticksTogether();
        allIsUndone();
        whatDoesNotShow();
        logOfMoreThanKept();
        imageKeepsAll();
        imageKeepsNot();
        inPlaceOfOneAhead();
        noImage();
        undoneAndDoneAgain();
        Checks.finish("KeepEdgesTest");
    }
}
