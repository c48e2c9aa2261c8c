/** Promises 1 to 5 and 15: the new object, the tape, the text, its faults, names, steps. */
public final class TextTest {
    private static final String RAIL = "rail a source 10 10 0 0 1;";

    private static void due(String call, long got, long want) {
        Checks.due(call, got, want);
    }

    private static void newObject() {
        PowerRails x = new PowerRails();
        for (int what = 0; what <= 10; what++) {
            due("count(" + what + ") of a new object", x.count(what), 0);
        }
        due("total() of a new object", x.total(), 0);
        due("fault(0) of a new object", x.fault(0), 0);
        due("fault(1) of a new object", x.fault(1), -1);
        due("sequence(0) of a new object", x.sequence(0), 0);
        due("named(0) of a new object", x.named(0), -1);
    }

    private static void tape() {
        PowerRails x = new PowerRails();
        for (int k = 1; k <= 35; k++) {
            due("feed", x.feed(0, 0, 0, 0, 0), 20 * k);
        }
        due("feed beyond 700", x.feed(0, 0, 0, 0, 0), -1);
        due("bytes behind it", x.count(10), 700);
        due("text beyond the tape", x.text(701), -2);
        due("text below 0", x.text(-1), -2);
        due("text of the least int", x.text(Integer.MIN_VALUE), -2);
        due("bytes behind these", x.count(10), 700);
        due("fault behind these", x.fault(0), 0);
        due("text of strange bytes", x.text(700), -1);
        due("fault of strange bytes", x.fault(0), 1);
        due("tape behind a text", x.count(10), 0);
        due("feed behind a text", x.feed(0, 0, 0, 0, 0), 20);
        due("text of nothing", x.text(0), 0);
        due("tape behind a text of nothing", x.count(10), 0);
        due("fault behind a right text", x.fault(0), 0);
        due("place behind a right text", x.fault(1), -1);
        due("text of an empty tape", x.text(0), 0);
        due("text(1) of an empty tape", x.text(1), -2);
        due("fault(2)", x.fault(2), -1);
        due("fault(-1)", x.fault(-1), -1);
    }

    private static void fullTape() {
        StringBuilder all = new StringBuilder();
        for (int k = 0; k < 24; k++) {
            all.append("wait 1;");
        }
        while (all.length() < 700) {
            all.append(k(all.length()));
        }
        PowerRails x = Checks.told(all.toString());
        due("steps of a full tape", x.count(2), 24);
        x = new PowerRails();
        String stops = "wait1;" + ";".repeat(694);
        due("text of stops", Checks.tell(x, stops), -1);
        due("place of the second stop", x.fault(1), 6);
    }

    private static char k(int at) {
        return at % 2 == 0 ? ' ' : '\n';
    }

    private static void emptyTexts() {
        PowerRails x = Checks.told("");
        due("rails of an empty text", x.count(0), 0);
        x = new PowerRails();
        due("text of blanks", Checks.tell(x, " \n  "), 0);
        due("fault of blanks", x.fault(0), 0);
    }

    private static void lines() {
        PowerRails x = Checks.told("rail ab source 1000 0200 16 100 300;\nrail c ab 5 6 7 8 9;needs c ab;on c;off ab;"
            + "wait 99;guard c 1;droop 1;fall 2;low 3;filter 4;retry 5 6;budget 7;seed 8;");
        due("rails", x.count(0), 2);
        due("needs", x.count(1), 1);
        due("steps", x.count(2), 4);
        int[][] rails = {{-2, 1000, 200, 16, 100, 300}, {0, 5, 6, 7, 8, 9}};
        for (int i = 0; i < 2; i++) {
            for (int what = 0; what < 6; what++) {
                due("rail(" + i + ", " + what + ")", Checks.rail(x, i, what), rails[i][what]);
            }
        }
        int[][] steps = {{0, 1, 0}, {1, 0, 0}, {2, -2, 99}, {3, 1, 1}};
        for (int k = 0; k < 4; k++) {
            for (int what = 0; what < 3; what++) {
                due("step(" + k + ", " + what + ")", x.step(k, what), steps[k][what]);
            }
        }
        due("step(4, 0)", x.step(4, 0), -1);
        due("step(-1, 0)", x.step(-1, 0), -1);
        due("step(0, 3)", x.step(0, 3), -1);
        due("step(0, -1)", x.step(0, -1), -1);
        due("named ab", x.named(Checks.letters("ab")), 0);
        due("named c", x.named(Checks.letters("c")), 1);
        due("named a", x.named(Checks.letters("a")), -1);
        due("named 0", x.named(0), -1);
        due("named -1", x.named(-1), -1);
        due("named ab and a bit above", x.named(Checks.letters("ab") | 1 << 30), -1);
        // Words and numbers end where the other begins.
        x = Checks.told("rail zzzzzz source1000 1000 0 0 1;wait9;guard zzzzzz9;");
        due("named zzzzzz", x.named(Checks.letters("zzzzzz")), 0);
        due("steps without blanks", x.count(2), 2);
    }

    /** A text without fault puts all back; one with a fault leaves all but the tape. */
    private static void newText() {
        PowerRails x = Checks.told(RAIL + "on a;");
        x.begin();
        x.tick(3);
        x.load(0, 5);
        x.keep();
        String before = Checks.picture(x);
        due("a faulty text", Checks.tell(x, "rail b source 1 1 1 1 1;on c;"), -1);
        due("its fault", x.fault(0), 4);
        due("all else behind it", Checks.picture(x).equals(before) ? 1 : 0, 1);
        due("named behind it", x.named(Checks.letters("b")), -1);
        due("what can be undone behind it", x.count(9), 3);
        due("undo behind it", x.undo(), 2);
        due("back behind it", x.back(), 3);
        x.load(0, 6);
        due("text that isn't there", x.text(1), -2);
        due("the fault behind it", x.fault(0), 4);
        due("a new text", Checks.tell(x, RAIL + "on a;"), 2);
        due("its tick", x.count(3), 0);
        due("its log", x.count(8), 0);
        due("its sequence", x.sequence(0), 0);
        due("its state", Checks.rail(x, 0, 6), 0);
        due("its load", Checks.rail(x, 0, 4), 0);
        due("what it can undo", x.count(9), 0);
        due("undo in it", x.undo(), -1);
        due("back in it", x.back(), -1);
        due("settings of a text do not stay", Checks.tell(x, RAIL + "fall 1;"), 2);
        due("a text without them", Checks.tell(x, RAIL + "on a;"), 2);
        x.begin();
        x.tick(1);
        x.ask(0, true);
        x.tick(2);
        due("fall is 500 again", Checks.rail(x, 0, 6), 0);
    }

    /** Whatever was told and went by ahead of it, a new text gives what it gives in a new object. */
    private static void asInANewObject() {
        String full = "rail a source 1000 300 16 100 80;rail b a 1000 500 0 50 999;needs b a;droop 150;filter 2;"
            + "retry 2 4;fall 90;low 80;budget 500;seed 5;on a;guard a 9;on b;wait 9;";
        String bare = "rail a source 1000 999 16 100 80;rail b source 1000 900 0 50 40;rail c b 5 5 5 5 5;on a;on b;on c;";
        PowerRails x = Checks.told(full);
        for (int round = 0; round < 6; round++) {
            x.begin();
            x.tick(5);
            x.ask(1, false);
            x.ask(0, round % 2 == 0);
            x.tick(1 + 5 * round);
            String text = round % 3 == 0 ? bare : full;
            PowerRails fresh = Checks.told(text);
            due("a text behind others", Checks.tell(x, text), text.length() - text.replace(";", "").length());
            for (int k = 0; k < 12; k++) {
                due("as in a new object", Checks.picture(x).equals(Checks.picture(fresh)) ? 1 : 0, 1);
                due("chance as there", x.chance(-1, 9, 500, 0), fresh.chance(-1, 9, 500, 0));
                due("begin as there", x.begin(), fresh.begin());
                due("tick as there", x.tick(k), fresh.tick(k));
            }
        }
        due("no rails", x.text(0), 0);
        due("no needs", x.count(1), 0);
        due("no steps", x.count(2), 0);
    }

    private static void longTokens() {
        PowerRails x = new PowerRails();
        due("700 blanks", Checks.tell(x, " ".repeat(700)), 0);
        due("700 letters", Checks.tell(x, "a".repeat(700)), -1);
        due("their place", x.fault(1), 0);
        due("a number of many digits", Checks.tell(x, "wait" + "0".repeat(694) + "9;"), 1);
        due("it is 9", x.step(0, 2), 9);
        due("one as long, too much", Checks.tell(x, "wait" + "9".repeat(695) + ";"), -1);
        due("its fault", x.fault(0), 2);
    }

    private static void wrongTokens() {
        Checks.faulty(";", 1, 0);
        Checks.faulty("a", 1, 0);
        Checks.faulty("5;", 1, 0);
        Checks.faulty("\t", 1, 0);
        Checks.faulty("wait 1;\r", 1, 7);
        Checks.faulty("wait 1;;", 1, 7);
        Checks.faulty("wait -1;", 1, 5);
        Checks.faulty("wait 1 2;", 1, 7);
        Checks.faulty("wait a;", 1, 5);
        Checks.faulty("Wait 1;", 1, 0);
        Checks.faulty("wait" + (char) 233 + ";", 1, 4);
        Checks.faulty("waits 1;", 1, 0);
        Checks.faulty("source 1;", 1, 0);
        Checks.faulty("rail abcdefg source 1 1 1 1 1;", 1, 5);
        Checks.faulty("abcdefg 0;", 1, 0);
        Checks.faulty("sources", 1, 0);
        for (String word : "rail source needs on off wait guard droop fall low filter retry budget seed".split(" ")) {
            Checks.faulty("rail " + word + " source 1 1 1 1 1;", 1, 5);
            Checks.faulty(RAIL + "on " + word + ";", 1, 29);
            Checks.faulty(RAIL + "needs a " + word + ";", 1, 34);
            if (!word.equals("source")) {
                Checks.faulty("rail b " + word + " 1 1 1 1 1;", 1, 7);
            }
        }
        Checks.faulty("rail 5 source 1 1 1 1 1;", 1, 5);
        Checks.faulty("rail a 5 1 1 1 1 1;", 1, 7);
        Checks.faulty("rail a source b", 1, 14);
        Checks.faulty("rail a source 1 1 1 1 1 1;", 1, 24);
        Checks.faulty("retry 1;", 1, 7);
        Checks.faulty(RAIL + "needs a;", 1, 33);
        Checks.faulty(RAIL + "on a 1;", 1, 31);
        Checks.faulty(RAIL + "guard a;", 1, 33);
    }

    private static void moreMustCome() {
        Checks.faulty("rail", 1, 4);
        Checks.faulty("rail ", 1, 5);
        Checks.faulty("wait 1", 1, 6);
        Checks.faulty("wait 1 \n ", 1, 9);
        Checks.faulty(RAIL + "on", 1, 28);
        Checks.faulty("rail a source 10 10 0 0 1", 1, 25);
        // The length is that of the text, not of the tape.
        PowerRails x = new PowerRails();
        Checks.feed(x, "wait 1;wait 2;");
        due("text cut short", x.text(12), -1);
        due("its fault", x.fault(0), 1);
        due("its place", x.fault(1), 12);
    }

    private static void numbers(String before, int least, int most, String behind) {
        int at = before.length();
        Checks.told(before + least + behind);
        Checks.told(before + most + behind);
        Checks.told(before + "000" + most + behind);
        Checks.faulty(before + (most + 1) + behind, 2, at);
        Checks.faulty(before + "99999999999999999999999" + behind, 2, at);
        Checks.faulty(before + "4294967297" + behind, 2, at);
        if (least > 0) {
            Checks.faulty(before + (least - 1) + behind, 2, at);
        }
    }

    private static void tooMuch() {
        numbers("rail a source ", 1, 9999, " 1 0 0 1;");
        numbers("rail a source 1 ", 1, 9999, " 0 0 1;");
        numbers("rail a source 1 1 ", 0, 99, " 0 1;");
        numbers("rail a source 1 1 0 ", 0, 999, " 1;");
        numbers("rail a source 1 1 0 0 ", 1, 99999, ";");
        numbers("wait ", 1, 99, ";");
        numbers(RAIL + "guard a ", 1, 99, ";");
        numbers("droop ", 1, 999, ";");
        numbers("fall ", 1, 9999, ";");
        numbers("low ", 1, 100, ";");
        numbers("filter ", 1, 9, ";");
        numbers("retry ", 0, 9, " 1;");
        numbers("retry 0 ", 1, 99, ";");
        numbers("budget ", 1, 999999, ";");
        numbers("seed ", 0, 99999, ";");
        StringBuilder rails = new StringBuilder();
        for (char c = 'a'; c <= 'l'; c++) {
            rails.append("rail ").append(c).append(" source 1 1 0 0 1;");
        }
        PowerRails x = Checks.told(rails.toString());
        due("12 rails", x.count(0), 12);
        Checks.faulty(rails + " rail 7;", 2, rails.length() + 1);
        StringBuilder needs = new StringBuilder(rails);
        for (int k = 0; k < 20; k++) {
            needs.append("needs ").append((char) ('a' + k / 10)).append(' ').append((char) ('c' + k % 10)).append(';');
        }
        x = Checks.told(needs.toString());
        due("20 needs", x.count(1), 20);
        Checks.faulty(needs + "needs 7;", 2, needs.length());
        Checks.faulty("wait 1;".repeat(24) + "wait 100;", 2, 24 * 7);
        Checks.faulty("wait 1;".repeat(24) + "on 5;", 2, 24 * 7);
        Checks.faulty("wait 1;".repeat(24) + "guard", 2, 24 * 7);
        Checks.faulty(RAIL + "needs a a;", 2, 34);
    }

    private static void toldAlready() {
        Checks.faulty(RAIL + "rail a a 1 1 1 1 1;", 3, 31);
        Checks.faulty(RAIL + "rail b source 1 1 0 0 1;needs a b;needs b a;needs a b;", 3, 26 + 24 + 20 + 8);
        Checks.faulty(RAIL + "rail b source 1 1 0 0 1;needs b a;needs b a;", 3, 26 + 24 + 10 + 8);
        String[] settings = {"droop 1;", "fall 1;", "low 1;", "filter 1;", "retry 1 1;", "budget 1;", "seed 1;"};
        for (String one : settings) {
            Checks.faulty(one + one, 3, one.length());
            Checks.faulty(one + one.substring(0, one.indexOf(' ')) + " a;", 3, one.length());
        }
        Checks.told(String.join("", settings));
        Checks.told("wait 1;wait 1;" + RAIL + "on a;on a;off a;off a;guard a 1;guard a 1;");
    }

    private static void notTold() {
        Checks.faulty("rail a a 1 1 1 1 1;", 4, 7);
        Checks.faulty("rail a b 1 1 1 1 1;rail b source 1 1 1 1 1;", 4, 7);
        Checks.faulty("on a;" + RAIL, 4, 3);
        Checks.faulty("off a;" + RAIL, 4, 4);
        Checks.faulty("guard a 0;" + RAIL, 4, 6);
        Checks.faulty("needs b b;", 4, 6);
        Checks.faulty(RAIL + "needs b a;", 4, 32);
        Checks.faulty(RAIL + "needs a b;", 4, 34);
    }

    public static void main(String[] args) {
        newObject();
        tape();
        fullTape();
        emptyTexts();
        lines();
        newText();
        asInANewObject();
        longTokens();
        wrongTokens();
        moreMustCome();
        tooMuch();
        toldAlready();
        notTold();
        Checks.finish("TextTest");
    }
}
