/** What the tests share: telling a text to a new object, comparing answers, and the end of a test. */
final class Checks {
    static final int NONE = PowerRails.NONE;

    private static int made = 0;
    private static int wrong = 0;

    private Checks() {
    }

    static void due(String call, long got, long want) {
        made++;
        if (got != want) {
            wrong++;
            System.out.println(call + " answered " + got + ", due is " + want);
        }
    }

    /** Ends a test's main: its exit code tells whether an answer was wrong. */
    static void finish(String test) {
        System.out.println(test + ": " + (made - wrong) + " passed, " + wrong + " failed");
        if (wrong != 0 || made == 0) {
            System.exit(1);
        }
    }

    /** Feeds a text, the last call of feed filled up with blanks. */
    static void feed(PowerRails x, String text) {
        for (int at = 0; at < text.length(); at += 20) {
            x.feed(word(text, at), word(text, at + 4), word(text, at + 8), word(text, at + 12), word(text, at + 16));
        }
    }

    private static int word(String text, int at) {
        int word = 0;
        for (int k = at; k < at + 4; k++) {
            word = word << 8 | (k < text.length() ? text.charAt(k) & 255 : ' ');
        }
        return word;
    }

    static int tell(PowerRails x, String text) {
        feed(x, text);
        return x.text(text.length());
    }

    /** A new object with a text that has no fault. */
    static PowerRails told(String text) {
        PowerRails x = new PowerRails();
        int lines = tell(x, text);
        int stops = text.length() - text.replace(";", "").length();
        due("text of " + text, lines, stops);
        return x;
    }

    /** The fault of a text and its place, both by a new object. */
    static void faulty(String text, int fault, int place) {
        PowerRails x = new PowerRails();
        due("text of " + text, tell(x, text), NONE);
        due("fault(0) of " + text, x.fault(0), fault);
        due("fault(1) of " + text, x.fault(1), place);
    }

    static int letters(String name) {
        int letters = 0;
        for (int k = 0; k < 6; k++) {
            letters = letters << 5 | (k < name.length() ? name.charAt(k) - 'a' + 1 : 0);
        }
        return letters;
    }

    /** What rail() answers; 1000001 and 1000002 stand for its two exceptions. */
    static int rail(PowerRails x, int rail, int what) {
        try {
            return x.rail(rail, what);
        } catch (IndexOutOfBoundsException e) {
            return 1000001;
        } catch (java.util.NoSuchElementException e) {
            return 1000002;
        }
    }

    /** Each answer that stands in an object, without any that looks ahead, as one text. */
    static String picture(PowerRails x) {
        StringBuilder all = new StringBuilder();
        for (int what = 0; what < 9; what++) {
            all.append(x.count(what)).append(' ');
        }
        all.append("total ").append(x.total());
        for (int i = 0; i < x.count(0); i++) {
            all.append("\nrail ").append(i).append(':');
            for (int what = 0; what <= 14; what++) {
                all.append(' ').append(rail(x, i, what));
            }
            for (int what = 0; what <= 2; what++) {
                all.append(' ').append(x.hangs(i, what));
            }
            all.append(" why ").append(x.why(i));
        }
        all.append("\nsequence");
        for (int what = 0; what <= 2; what++) {
            all.append(' ').append(x.sequence(what));
        }
        all.append("\nwait");
        for (int k = 0; k <= x.count(4); k++) {
            all.append(' ').append(x.waiting(k, false));
        }
        all.append("\nrow");
        for (int k = 0; k <= x.count(5); k++) {
            all.append(' ').append(x.waiting(k, true));
        }
        for (int k = 0; k < x.count(8); k++) {
            all.append("\nlog ").append(x.log(k, 0)).append(' ').append(x.log(k, 1)).append(' ').append(x.log(k, 2));
        }
        return all.toString();
    }
}
