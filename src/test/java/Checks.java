/** What the tests share: telling a text to a new object, comparing answers, and the end of a test. */
final class Checks {
    static final int NONE = PowerRails.NONE;

    private static int made = 0;
    private static int wrong = 0;

    private Checks() {
    }

    static void due(String call, long got, long want) {
        made++;
        if (got != want) {
            wrong++;
            System.out.println(call + " answered " + got + ", due is " + want);
        }
    }

    /** Ends a test's main: its exit code tells whether an answer was wrong. */
    static void finish(String test) {
        System.out.println(test + ": " + (made - wrong) + " passed, " + wrong + " failed");
        if (wrong != 0 || made == 0) {
            System.exit(1);
        }
    }

    /** Feeds a text, the last call of feed filled up with blanks. */
    static void feed(PowerRails x, String text) {
        for (int at = 0; at < text.length(); at += 20) {
            x.feed(word(text, at), word(text, at + 4), word(text, at + 8), word(text, at + 12), word(text, at + 16));
        }
    }

    private static int word(String text, int at) {
        int word = 0;
        for (int k = at; k < at + 4; k++) {
            word = word << 8 | (k < text.length() ? text.charAt(k) & 255 : ' ');
        }
        return word;
    }

    static int tell(PowerRails x, String text) {
        feed(x, text);
        return x.text(text.length());
    }

    /** A new object with a text that has no fault. */
    static PowerRails told(String text) {
        PowerRails x = new PowerRails();
        int lines = tell(x, text);
        int stops = text.length() - text.replace(";", "").length();
        due("text of " + text, lines, stops);
        return x;
    }

    /** The fault of a text and its place, both by a new object. */
    static void faulty(String text, int fault, int place) {
        PowerRails x = new PowerRails();
        due("text of " + text, tell(x, text), NONE);
        due("fault(0) of " + text, x.fault(0), fault);
        due("fault(1) of " + text, x.fault(1), place);
    }

    static int letters(String name) {
        int letters = 0;
        for (int k = 0; k < 6; k++) {
            letters = letters << 5 | (k < name.length() ? name.charAt(k) - 'a' + 1 : 0);
        }
        return letters;
    }

    /** What rail() answers; 1000001 and 1000002 stand for its two exceptions. */
    static int rail(PowerRails x, int rail, int what) {
        try {
            return x.rail(rail, what);
        } catch (IndexOutOfBoundsException e) {
            return 1000001;
        } catch (java.util.NoSuchElementException e) {
            return 1000002;
        }
    }

    /** State, volts and draw of a rail. */
    static void stands(PowerRails x, String when, int i, int state, int volts, int draw) {
        due(when + ": state of " + i, rail(x, i, 6), state);
        due(when + ": volts of " + i, rail(x, i, 7), volts);
        due(when + ": draw of " + i, rail(x, i, 8), draw);
    }

    /** The rails that wait, or those of the row, and nothing behind them. */
    static void lined(PowerRails x, String when, boolean row, int... rails) {
        for (int k = 0; k < rails.length; k++) {
            due(when + ": waiting(" + k + ", " + row + ")", x.waiting(k, row), rails[k]);
        }
        due(when + ": behind the last of waiting(k, " + row + ")", x.waiting(rails.length, row), -2);
        due(when + ": how many, row " + row, x.count(row ? 5 : 4), rails.length);
    }

    /** The latest entries of the log, the latest first: tick, rail, what of each. */
    static void logged(PowerRails x, String when, int... entries) {
        for (int k = 0; k < entries.length; k++) {
            due(when + ": log(" + k / 3 + ", " + k % 3 + ")", x.log(k / 3, k % 3), entries[k]);
        }
    }

    /** Lets more ticks go by than one call takes. */
    static void pass(PowerRails x, int ticks) {
        for (int left = ticks; left > 0; left -= 50) {
            x.tick(Math.min(left, 50));
        }
    }

    /** Each answer that stands in an object, without any that looks ahead, as one text. */
    static String picture(PowerRails x) {
        StringBuilder all = new StringBuilder();
        for (int what = 0; what < 9; what++) {
            all.append(x.count(what)).append(' ');
        }
        all.append("total ").append(x.total());
        for (int i = 0; i < x.count(0); i++) {
            all.append("\nrail ").append(i).append(':');
            for (int what = 0; what <= 14; what++) {
                all.append(' ').append(rail(x, i, what));
            }
            for (int what = 0; what <= 2; what++) {
                all.append(' ').append(x.hangs(i, what));
            }
            all.append(" why ").append(x.why(i));
        }
        all.append("\nsequence");
        for (int what = 0; what <= 2; what++) {
            all.append(' ').append(x.sequence(what));
        }
        all.append("\nwait");
        for (int k = 0; k <= x.count(4); k++) {
            all.append(' ').append(x.waiting(k, false));
        }
        all.append("\nrow");
        for (int k = 0; k <= x.count(5); k++) {
            all.append(' ').append(x.waiting(k, true));
        }
        for (int k = 0; k < x.count(8); k++) {
            all.append("\nlog ").append(x.log(k, 0)).append(' ').append(x.log(k, 1)).append(' ').append(x.log(k, 2));
        }
        return all.toString();
    }

    /** All that an object answers, what it keeps beside the rails and what is ahead of it with it, as one text. */
    static String whole(PowerRails x) {
        StringBuilder all = new StringBuilder(picture(x));
        all.append("\nundone ").append(x.count(9)).append(" tape ").append(x.count(10));
        all.append(" fault ").append(x.fault(0)).append(' ').append(x.fault(1));
        all.append("\nahead ").append(x.quiet()).append(' ').append(x.heat()).append(' ').append(x.bestOff(9));
        for (int n : new int[] {1, 2, 3, 9, 100}) {
            all.append(' ').append(x.peak(n)).append(' ').append(x.chance(-1, n, 99, 0));
            for (int i = 0; i < x.count(0); i++) {
                for (int what = 0; what < 4; what++) {
                    all.append(' ').append(x.ahead(i, n, what));
                }
            }
        }
        for (int k = 0; k < x.count(2); k++) {
            all.append("\nstep ").append(x.step(k, 0)).append(' ').append(x.step(k, 1)).append(' ').append(x.step(k, 2));
        }
        return all.toString();
    }

    static void same(String when, String got, String want) {
        due(when + ": all as it was", got.equals(want) ? 1 : 0, 1);
        if (!got.equals(want)) {
            System.out.println("got\n" + got + "\nwant\n" + want);
        }
    }
}
