/**
 * The boundaries of tape, text, faults, names and steps: Terms 1, promises 1 to 5 and 15. One method for each
 * sentence of the document that names a boundary; the sentence stands above it.
 */
public final class TextEdgesTest {
    private static final String A = "rail a source 1 1 0 0 1;";
    private static final String C = "rail c source 1 1 0 0 1;";
    /** One line of each shape, right behind the rails a and c. */
    private static final String[] LINES = {"rail b source 1 1 0 0 1", "rail b a 1 1 0 0 1", "needs c a", "on a", "off a",
        "wait 1", "guard a 1", "droop 1", "fall 1", "low 1", "filter 1", "retry 1 1", "budget 1", "seed 1"};
    private static final String WORDS = "rail source needs on off wait guard droop fall low filter retry budget seed";

    private static void due(String call, long got, long want) {
        Checks.due(call, got, want);
    }

    private static String rails(int n) {
        StringBuilder all = new StringBuilder();
        for (int i = 0; i < n; i++) {
            all.append("rail ").append((char) ('a' + i)).append(" source 1 1 0 0 1;");
        }
        return all.toString();
    }

    /** The first of: a needs each other one, b needs each other one. */
    private static String needs(int n) {
        StringBuilder all = new StringBuilder();
        for (int k = 0; k < n; k++) {
            int rail = k / 11;
            int needed = k % 11 < rail ? k % 11 : k % 11 + 1;
            all.append("needs ").append((char) ('a' + rail)).append(' ').append((char) ('a' + needed)).append(';');
        }
        return all.toString();
    }

    /** "A TEXT: { LINE ';' }": none, one, many. */
    private static void linesNoneOneMany() {
        PowerRails x = new PowerRails();
        due("no byte", x.text(0), 0);
        due("only blanks", Checks.tell(x, "\n  \n"), 0);
        due("one line", Checks.tell(x, "wait 1;"), 1);
        due("24 steps and 7 settings", Checks.tell(x, "wait 1;".repeat(24)
            + "droop 1;fall 1;low 1;filter 1;retry 0 1;budget 1;seed 0;"), 31);
        due("their steps", x.count(2), 24);
        Checks.faulty(";", 1, 0);
        Checks.faulty("wait 1;;", 1, 7);
        Checks.faulty("wait 1; ;", 1, 8);
    }

    /** "(the length, if more must come)": behind each token of each line but its stop. */
    private static void moreMustCome() {
        for (String line : LINES) {
            String text = A + C;
            for (String token : line.split(" ")) {
                text += token;
                Checks.faulty(text, 1, text.length());
                Checks.faulty(text + " \n", 1, text.length() + 2);
                text += " ";
            }
            Checks.told(text + ";");
            Checks.told(A + C + line + ";");
            Checks.told(A + C + line.replace(" ", "\n \n") + "\n;\n");
        }
        // The length is that of the text, whatever else stands on the tape.
        PowerRails x = new PowerRails();
        Checks.feed(x, "wait 1;wait 2;");
        due("cut ahead of the stop", x.text(13), -1);
        due("its place", x.fault(1), 13);
        due("the tape behind it", x.count(10), 0);
    }

    /** "1 a TOKEN that is none .. or can't stand there": in each place of each line. */
    private static void wrongTokens() {
        for (String line : LINES) {
            String[] tokens = line.split(" ");
            String text = A + C;
            for (int k = 0; k <= tokens.length; k++) {
                boolean number = k < tokens.length && Character.isDigit(tokens[k].charAt(0));
                String[] never = {",", "\t", "A", "abcdefg", "-1", "rail", k < tokens.length ? ";" : "1",
                    number ? "a" : "7", number ? "zzz" : "0", k == 2 && tokens[0].equals("rail") ? "on" : "source"};
                for (String wrong : never) {
                    if (k > 0 || !wrong.equals("rail")) {
                        Checks.faulty(text + wrong + " 1;", 1, text.length());
                    }
                }
                text += k < tokens.length ? tokens[k] + " " : "";
            }
        }
    }

    /** "W: one of 1 .. 6 letters", "(a word of more than 6 letters that isn't of the language, too)". */
    private static void lengthOfWords() {
        PowerRails x = Checks.told("rail a source 1 1 0 0 1;rail abcdef a 1 1 0 0 1;rail zzzzzz abcdef 1 1 0 0 1;on abcdef;");
        due("one letter", x.named(Checks.letters("a")), 0);
        due("six letters", x.named(Checks.letters("abcdef")), 1);
        due("six more", x.named(Checks.letters("zzzzzz")), 2);
        due("told by six letters", x.step(0, 1), 1);
        String six = "rail abcdef source 1 1 0 0 1;";
        Checks.faulty("rail abcdefg source 1 1 0 0 1;", 1, 5);
        Checks.faulty(six + "rail b abcdefg 1 1 0 0 1;", 1, six.length() + 7);
        Checks.faulty(six + "on abcdefg;", 1, six.length() + 3);
        Checks.faulty(six + "off abcdefa;", 1, six.length() + 4);
        Checks.faulty(six + "guard abcdefg 1;", 1, six.length() + 6);
        Checks.faulty(six + "needs abcdefg abcdef;", 1, six.length() + 6);
        Checks.faulty(six + C + "needs c abcdefg;", 1, six.length() + C.length() + 8);
        for (String word : "filters budgeta sourcea abcdefg".split(" ")) {
            Checks.faulty(word + " 1;", 1, 0);
            Checks.faulty("rail a " + word + " 1 1 0 0 1;", 1, 7);
        }
        Checks.faulty("a".repeat(700), 1, 0);
    }

    /** "none of those of the language": each of them names no rail, those beside them do. */
    private static void wordsOfTheLanguage() {
        for (String word : WORDS.split(" ")) {
            Checks.faulty("rail " + word + " source 1 1 0 0 1;", 1, 5);
            Checks.faulty(A + "on " + word + ";", 1, A.length() + 3);
            String shorter = word.substring(0, word.length() - 1);
            Checks.told("rail " + shorter + " source 1 1 0 0 1;on " + shorter + ";");
            if (word.length() < 6) {
                Checks.told("rail " + word + "x source 1 1 0 0 1;guard " + word + "x 1;");
            }
        }
    }

    /** "Words: small letters in a row", "N: digits", "Blanks 10, 32": the bytes beside them are none of these. */
    private static void bytes() {
        Checks.told("rail az source 1 1 0 0 1;rail za az 1 1 0 0 1;");
        for (int c = 0; c < 256; c++) {
            boolean letter = c >= 'a' && c <= 'z';
            boolean digit = c >= '0' && c <= '9';
            String one = "" + (char) c;
            if (c == 10 || c == 32) {
                Checks.told(one + "wait" + one + "1" + one + ";" + one);
            } else if (!letter && !digit && c != ';') {
                Checks.faulty(one, 1, 0);
                Checks.faulty("wait" + one + "1;", 1, 4);
                Checks.faulty("rail a" + one + " source 1 1 0 0 1;", 1, 6);
                Checks.faulty("wait 1" + one + ";", 1, 6);
                Checks.faulty("wait 1;" + one, 1, 7);
            } else if (digit) {
                due("a digit", Checks.tell(new PowerRails(), "wait 1" + one + ";"), 1);
                Checks.faulty("rail a" + one + " source 1 1 0 0 1;", 1, 6);
            }
        }
    }

    private static void range(String before, int least, int most, String behind) {
        int at = before.length();
        for (int n : new int[] {least, most}) {
            Checks.told(before + n + behind);
            Checks.told(before + "0" + n + behind);
            Checks.told(before + "0".repeat(40) + n + behind);
        }
        Checks.faulty(before + (most + 1) + behind, 2, at);
        Checks.faulty(before + "0" + (most + 1) + behind, 2, at);
        for (String wraps : new String[] {"2147483647", "2147483648", "4294967296", "4294967297", "18446744073709551617",
            "1000000", "10000000000000000000000000000000000001"}) {
            Checks.faulty(before + wraps + behind, 2, at);
        }
        if (least > 0) {
            Checks.faulty(before + "0" + behind, 2, at);
            Checks.faulty(before + "000" + behind, 2, at);
        }
    }

    /** "LEVEL 1 .. 9999, RAMP 1 .. 9999, ..": the least, the most, what is beyond; "2 .. a number beyond what is said". */
    private static void numbers() {
        range("rail a source ", 1, 9999, " 1 0 0 1;");
        range("rail a source 1 ", 1, 9999, " 0 0 1;");
        range("rail a source 1 1 ", 0, 99, " 0 1;");
        range("rail a source 1 1 0 ", 0, 999, " 1;");
        range("rail a source 1 1 0 0 ", 1, 99999, ";");
        range("wait ", 1, 99, ";");
        range(A + "guard a ", 1, 99, ";");
        range("droop ", 1, 999, ";");
        range("fall ", 1, 9999, ";");
        range("low ", 1, 100, ";");
        range("filter ", 1, 9, ";");
        range("retry ", 0, 9, " 1;");
        range("retry 0 ", 1, 99, ";");
        range("budget ", 1, 999999, ";");
        range("seed ", 0, 99999, ";");
        PowerRails x = Checks.told("rail a source 9999 9999 99 999 99999;wait 99;guard a 99;");
        int[] most = {-2, 9999, 9999, 99, 999, 99999};
        for (int what = 0; what < most.length; what++) {
            due("the most of rail(0, " + what + ")", Checks.rail(x, 0, what), most[what]);
        }
        due("the most of a wait", x.step(0, 2), 99);
        due("the most of a guard", x.step(1, 2), 99);
        x = Checks.told("rail a source 1 1 0 0 1;wait 1;guard a 1;");
        int[] least = {-2, 1, 1, 0, 0, 1};
        for (int what = 0; what < least.length; what++) {
            due("the least of rail(0, " + what + ")", Checks.rail(x, 0, what), least[what]);
        }
    }

    /** "rail, at most 12", "a 13th rail .. (at the word of the LINE)", "numbered from 0 on as they come". */
    private static void thirteenthRail() {
        String twelve = rails(12);
        PowerRails x = Checks.told(twelve);
        due("12 rails", x.count(0), 12);
        for (int i = 0; i < 12; i++) {
            due("by its name", x.named(Checks.letters("" + (char) ('a' + i))), i);
        }
        for (String line : new String[] {"rail m source 1 1 0 0 1;", "rail a source 1 1 0 0 1;", "rail 5", "rail", "rail;"}) {
            Checks.faulty(twelve + line, 2, twelve.length());
            Checks.faulty(twelve + " \n " + line, 2, twelve.length() + 3);
        }
        Checks.faulty(rails(11) + "rail 5", 1, rails(11).length() + 5);
        Checks.told(twelve + "needs l a;on l;");
    }

    /** "needs, at most 20", "a 21st needs". */
    private static void twentyFirstNeeds() {
        String twenty = rails(12) + needs(20);
        PowerRails x = Checks.told(twenty);
        due("20 needs", x.count(1), 20);
        due("a needs all others", x.hangs(0, 0), 0xffe);
        for (String line : new String[] {"needs l a;", "needs a a;", "needs a b;", "needs m a;", "needs 5", "needs"}) {
            Checks.faulty(twenty + line, 2, twenty.length());
        }
        String nineteen = rails(12) + needs(19);
        Checks.faulty(nineteen + "needs 5", 1, nineteen.length() + 6);
        Checks.told(twenty + "on l;droop 1;");
    }

    /** "STEPS, at most 24", "a 25th STEP (at the word of the LINE)". */
    private static void twentyFifthStep() {
        String steps = A + "on a;off a;wait 1;guard a 1;".repeat(6);
        PowerRails x = Checks.told(steps);
        due("24 steps", x.count(2), 24);
        due("the last one", x.step(23, 0), 3);
        due("none behind it", x.step(24, 0), -1);
        for (String line : new String[] {"on a;", "off a;", "wait 1;", "guard a 1;", "on b;", "off 5;", "wait 100;", "guard", "on"}) {
            Checks.faulty(steps + line, 2, steps.length());
        }
        String less = A + "wait 1;".repeat(23);
        Checks.faulty(less + "on 5", 1, less.length() + 3);
        Checks.told(steps + "seed 1;rail b a 1 1 0 0 1;needs b a;");
    }

    /** "another one it NEEDS", "a RAIL that needs itself (at the second W)". */
    private static void needsItself() {
        Checks.faulty(A + "needs a a;", 2, A.length() + 8);
        Checks.faulty(A + C + "needs a c;needs c c;", 2, A.length() + C.length() + 18);
        Checks.told(A + C + "needs a c;needs c a;");
        Checks.faulty(A + "needs b b;", 4, A.length() + 6);
    }

    /** "3 told already: a name (at W)". */
    private static void nameTwice() {
        Checks.faulty(A + "rail a source 1 1 0 0 1;", 3, A.length() + 5);
        Checks.faulty(A + "rail a b 0 0 100 1000 0;", 3, A.length() + 5);
        Checks.faulty(A + C + "rail c a 1 1 0 0 1;", 3, A.length() + C.length() + 5);
        Checks.told("rail ab source 1 1 0 0 1;rail a source 1 1 0 0 1;rail b source 1 1 0 0 1;rail abc source 1 1 0 0 1;");
    }

    /** "needs of two RAILS (at the second W)": told the other way round they are others. */
    private static void needsTwice() {
        String ac = A + C + "needs a c;";
        Checks.faulty(ac + "needs a c;", 3, ac.length() + 8);
        Checks.faulty(ac + "needs c a;needs a c;", 3, ac.length() + 18);
        Checks.faulty(ac + "needs c a;needs c a;", 3, ac.length() + 18);
        PowerRails x = Checks.told(ac + "needs c a;");
        due("both", x.count(1), 2);
        due("a needs c", x.hangs(0, 0), 2);
        due("c needs a", x.hangs(1, 0), 1);
        // A parent isn't a needs.
        x = Checks.told(A + "rail b a 1 1 0 0 1;needs b a;");
        due("a parent is needed, too", x.hangs(1, 0), 1);
        due("a parent alone isn't", Checks.told(A + "rail b a 1 1 0 0 1;").hangs(1, 0), 0);
    }

    /** "droop, fall, low, filter, retry, budget, seed (at the word)". */
    private static void settingsTwice() {
        String[] settings = {"droop 1;", "fall 1;", "low 1;", "filter 1;", "retry 0 1;", "budget 1;", "seed 0;"};
        String all = String.join("", settings);
        Checks.told(all);
        for (String one : settings) {
            String word = one.substring(0, one.indexOf(' '));
            for (String line : new String[] {one, word + " 1000000;", word + " a;", word + ";", word}) {
                Checks.faulty(all + line, 3, all.length());
                Checks.faulty(one + "wait 1; " + line, 3, one.length() + 8);
            }
        }
        // A step told already is one more.
        due("steps", Checks.told(A + "on a;wait 1;guard a 1;off a;".repeat(2)).count(2), 8);
    }

    /** "a RAIL told ahead", "4 a RAIL that isn't told ahead (at W)". */
    private static void notToldAhead() {
        Checks.faulty("rail a a 1 1 0 0 1;", 4, 7);
        Checks.faulty("rail a c 1 1 0 0 1;" + C, 4, 7);
        Checks.faulty("on a;" + A, 4, 3);
        Checks.faulty("off a;" + A, 4, 4);
        Checks.faulty("guard a 1;" + A, 4, 6);
        Checks.faulty("needs a c;" + A + C, 4, 6);
        Checks.faulty(A + "needs a c;" + C, 4, A.length() + 8);
        Checks.faulty(C + "needs a c;" + A, 4, C.length() + 6);
        Checks.faulty(A + "on aa;", 4, A.length() + 3);
        // A line that was faulty told no rail, and what an earlier text told is gone.
        PowerRails x = Checks.told(A + C);
        due("text of a rail told by an earlier one", Checks.tell(x, "on a;"), -1);
        due("its fault", x.fault(0), 4);
    }

    /** "FAULTS, the first along the text (of one place the least)". */
    private static void firstFault() {
        Checks.faulty("wait 100 a;", 2, 5);
        Checks.faulty("wait a 100;", 1, 5);
        Checks.faulty("on b;wait 0;;", 4, 3);
        Checks.faulty("droop 1;droop 0;on b;", 3, 8);
        Checks.faulty(A + "rail a b 0 0 0 0 0,", 3, A.length() + 5);
        Checks.faulty("rail a b 0", 4, 7);
        Checks.faulty("rail a source 0", 2, 14);
        Checks.faulty("guard b 100;", 4, 6);
        Checks.faulty(A + "guard a 100,", 2, A.length() + 8);
        // One place: what can't stand there isn't told already, too much, or not told.
        Checks.faulty("wait 5 100;", 1, 7);
        Checks.faulty("on 100000;", 1, 3);
        Checks.faulty("on seed;", 1, 3);
        Checks.faulty("seed 1;on seed;", 1, 10);
        Checks.faulty("on abcdefg;", 1, 3);
        Checks.faulty(A + "rail c a 1 1 0 0 a;", 1, A.length() + 17);
        Checks.faulty(A + "needs a 5;", 1, A.length() + 8);
        Checks.faulty(A + "on a a;", 1, A.length() + 5);
    }

    /** "PowerRails(): No RAILS; an empty TAPE." */
    private static void newObject() {
        PowerRails x = new PowerRails();
        for (int what = 0; what <= 10; what++) {
            due("count(" + what + ") of a new object", x.count(what), 0);
        }
        for (int i : new int[] {-1, 0, 1, 11}) {
            due("rail of a new object", Checks.rail(x, i, 0), 1000001);
            due("hangs of a new object", x.hangs(i, 0), -1);
            due("order of a new object", x.order(i), -1);
            due("step of a new object", x.step(i, 0), -1);
            due("ask of a new object", x.ask(i, false), -1);
        }
        due("text of a byte", x.text(1), -2);
        due("named nothing", x.named(0), -1);
        due("fault of a new object", x.fault(0), 0);
        due("place of a new object", x.fault(1), -1);
        due("quiet of a new object", x.quiet(), 0);
        due("its ticks", x.tick(50), 50);
    }

    /** "NONE, and none come, if it would have more than 700"; "four of each number, the highest first". */
    private static void fullTape() {
        PowerRails x = new PowerRails();
        for (int k = 1; k <= 34; k++) {
            due("feed", x.feed(-1, 0x20202020, 0, 1, Integer.MIN_VALUE), 20 * k);
        }
        due("the 35th fills it", x.feed(1, 2, 3, 4, 5), 700);
        for (int k = 0; k < 3; k++) {
            due("the 36th", x.feed(0x77616974, 0x20313b20, 0, 0, 0), -1);
            due("none come", x.count(10), 700);
        }
        due("all of it", x.text(700), -1);
        due("the tape is empty then", x.count(10), 0);
        due("room again", x.feed(0, 0, 0, 0, 0), 20);
        // "wait", " 99;", "seed", " 7;\n", "    "
        x = new PowerRails();
        x.feed(0x77616974, 0x2039393b, 0x73656564, 0x20373b0a, 0x20202020);
        due("the highest byte first", x.text(20), 2);
        due("its wait", x.step(0, 2), 99);
        // A byte above 127 is no other than it is, whatever its sign.
        x.feed(0x20202080, 0, 0, 0, 0);
        due("byte 128", x.text(4), -1);
        due("its place", x.fault(1), 3);
        Checks.faulty(";".repeat(700), 1, 0);
        Checks.faulty("wait1;" + ",".repeat(694), 1, 6);
        for (int n = 680; n <= 700; n += 20) {
            x = new PowerRails();
            Checks.feed(x, " ".repeat(n));
            due("blanks of " + n, x.text(n), 0);
        }
    }

    /** "-2, and the TAPE stays: there are not so many, n is below 0". */
    private static void textBeyondTheTape() {
        PowerRails x = Checks.told(A + "on a;");
        x.begin();
        x.tick(2);
        x.keep();
        Checks.tell(x, "on b;");
        Checks.feed(x, "wait 1;wait 2;wait 3;");
        String before = Checks.picture(x);
        for (int n : new int[] {41, 700, 701, Integer.MAX_VALUE, -1, -2, Integer.MIN_VALUE}) {
            due("text(" + n + ")", x.text(n), -2);
            due("the tape stays", x.count(10), 40);
            due("the fault is that of the text ahead", x.fault(0), 4);
            due("its place, too", x.fault(1), 3);
            due("what can be undone stays", x.count(9), 2);
            due("all else stays", Checks.picture(x).equals(before) ? 1 : 0, 1);
        }
        due("the image stays", x.back(), 2);
        due("all of the tape", x.text(40), 3);
        due("nothing of an empty one", x.text(0), 0);
        due("one of an empty one", x.text(1), -2);
    }

    /** "The TAPE's first n bytes (it is empty then) are the TEXT": what stands behind them is gone. */
    private static void firstBytes() {
        PowerRails x = new PowerRails();
        Checks.feed(x, "wait 1;wait 2;wait 3;");
        due("the first seven", x.text(7), 1);
        due("the rest is gone", x.count(10), 0);
        due("its step", x.step(0, 2), 1);
        due("no other", x.count(2), 1);
        Checks.feed(x, "wait 1;wait 2;wait 3;");
        due("none of them", x.text(0), 0);
        due("the tape, too, is gone", x.count(10), 0);
        due("no steps", x.count(2), 0);
        Checks.feed(x, "wait 1;wait 2;wait 3;");
        due("a cut word", x.text(9), -1);
        due("it is none of the language", x.fault(0) * 100 + x.fault(1), 107);
        due("a faulty text empties it, too", x.count(10), 0);
    }

    /** "all as at first, the SEQUENCE doesn't RUN, no IMAGE, nothing to undo". */
    private static void allAsAtFirst() {
        String text = "rail a source 10 10 0 5 4;retry 9 9;low 100;on a;guard a 9;wait 9;";
        PowerRails x = Checks.told(text);
        x.begin();
        x.tick(3);
        x.load(0, 99);
        x.limit(0, 99);
        x.keep();
        due("something has gone on", x.count(7) > 0 && x.count(9) > 0 && x.count(8) > 0 ? 1 : 0, 1);
        due("the text once more", Checks.tell(x, text), 6);
        due("as in a new object", Checks.picture(x).equals(Checks.picture(Checks.told(text))) ? 1 : 0, 1);
        due("it doesn't run", x.sequence(0), 0);
        due("no image", x.back(), -1);
        due("nothing to undo", x.undo(), -1);
        due("nothing can be", x.count(9), 0);
        x.begin();
        x.tick(1);
        x.ask(0, true);
        Checks.tell(x, rails(3) + "needs a b;needs c b;");
        due("nothing in the row", x.count(5), 0);
        x.ask(2, false);
        x.ask(0, false);
        due("two wait", x.count(4), 2);
        Checks.tell(x, rails(2));
        Checks.lined(x, "none waits", false);
        Checks.lined(x, "none is in the row", true);
        x.ask(1, false);
        Checks.lined(x, "one does", false, 1);
        x.keep();
        due("an image goes with an empty text, too", x.text(0) + x.back(), -1);
    }

    /** The same, behind texts and runs of each kind: no setting, need, step, load or entry of theirs is left. */
    private static void nothingIsLeft() {
        String full = "rail a source 1000 300 16 999 80;rail b a 1000 500 0 50 9;rail c source 5 5 0 0 9;needs b a;"
            + "needs c a;needs a c;droop 150;filter 2;retry 2 4;fall 90;low 80;budget 500;seed 5;on a;guard a 9;on b;";
        String[] texts = {"", rails(3), rails(3) + "wait 1;", full.replace("needs a c;", ""), full,
            "rail a source 1000 999 16 100 80;rail b source 1000 900 0 50 40;rail c b 5 5 5 5 5;on a;on b;on c;"};
        for (String text : texts) {
            for (String before : texts) {
                for (int life : new int[] {0, 1, 2, 3, 4, 5, 9, 16, 20}) {
                    PowerRails x = new PowerRails();
                    Checks.tell(x, before);
                    live(x, 9);
                    Checks.tell(x, before);
                    live(x, life);
                    PowerRails fresh = new PowerRails();
                    due("the text", Checks.tell(x, text), Checks.tell(fresh, text));
                    Checks.same("told", Checks.whole(x), Checks.whole(fresh));
                    for (int k = 0; k < 9; k++) {
                        due("ask", x.ask(k % 3, k > 6), fresh.ask(k % 3, k > 6));
                        due("begin", x.begin(), fresh.begin());
                        due("tick", x.tick(1 + k), fresh.tick(1 + k));
                        Checks.same("gone on", Checks.picture(x), Checks.picture(fresh));
                        due("what would go", x.ifOff(k % 3), fresh.ifOff(k % 3));
                        due("by the seed", x.chance(-1, 9, 99, 0), fresh.chance(-1, 9, 99, 0));
                    }
                }
            }
        }
    }

    private static void live(PowerRails x, int ticks) {
        for (int i = 0; i < 3; i++) {
            x.ask(i, false);
        }
        x.begin();
        for (int k = 1; k <= ticks; k++) {
            x.tick(1);
            x.keep();
            if (k == 4) {
                x.ask(1, true);
            }
        }
    }

    /** "NONE with a FAULT, all else stays". */
    private static void faultyTextChangesNothing() {
        PowerRails x = Checks.told("rail a source 10 5 0 5 9;rail b a 10 10 0 1 9;needs b a;on a;wait 9;on b;seed 5;");
        x.begin();
        x.tick(2);
        x.keep();
        x.load(1, 7);
        String before = Checks.picture(x);
        int ahead = x.chance(-1, 50, 9, 0);
        String[] faulty = {"rail", "rail a source 1 1 0 0 1;rail a source 1 1 0 0 1;", "droop 999;fall 1;low 1;low 1;",
            "seed 9;retry 9 9;;", "wait 3;wait 3;on q;", rails(12) + "needs a b;rail z source 1 1 1 1 1;"};
        for (String text : faulty) {
            due("a faulty text", Checks.tell(x, text), -1);
            due("it has a fault", x.fault(0) > 0 ? 1 : 0, 1);
            due("all else stays", Checks.picture(x).equals(before) ? 1 : 0, 1);
            due("what can be undone stays", x.count(9), 3);
            due("the names stay", x.named(Checks.letters("b")), 1);
            due("its seed stays", x.chance(-1, 50, 9, 0), ahead);
            due("the steps stay", x.step(2, 1), 1);
        }
        due("it goes on", x.tick(8), 10);
        due("b is asked in the tick behind the wait", Checks.rail(x, 1, 11), 10);
        due("undone", x.undo(), 3);
        due("load undone", x.undo(), 2);
        due("the image stays", x.back(), 2);
    }

    /** "Of the latest text() that was not -2 .. (NONE without). NONE for another what." */
    private static void fault() {
        PowerRails x = new PowerRails();
        due("text(1)", x.text(1), -2);
        due("no fault of a -2", x.fault(0), 0);
        due("no place", x.fault(1), -1);
        Checks.tell(x, ";");
        due("a fault at 0", x.fault(0), 1);
        due("its place", x.fault(1), 0);
        x.text(5);
        due("it stays behind a -2", x.fault(0), 1);
        due("its place, too", x.fault(1), 0);
        Checks.tell(x, "wait 1;on b;");
        due("the next one", x.fault(0), 4);
        due("its place", x.fault(1), 10);
        for (int what : new int[] {-1, 2, 3, Integer.MAX_VALUE, Integer.MIN_VALUE}) {
            due("fault(" + what + ")", x.fault(what), -1);
        }
        x.text(0);
        due("none of a right text", x.fault(0), 0);
        due("nor a place", x.fault(1), -1);
        due("fault(2) without", x.fault(2), -1);
    }

    /** "5 bits each (a is 1; the first one highest of six, 0 behind the last one) .. NONE: there is none such." */
    private static void named() {
        PowerRails x = Checks.told("rail a source 1 1 0 0 1;rail z a 1 1 0 0 1;rail zzzzzz z 1 1 0 0 1;rail ab a 1 1 0 0 1;");
        due("a", x.named(1 << 25), 0);
        due("z", x.named(26 << 25), 1);
        due("zzzzzz", x.named(26 << 25 | 26 << 20 | 26 << 15 | 26 << 10 | 26 << 5 | 26), 2);
        due("ab", x.named(1 << 25 | 2 << 20), 3);
        int[] none = {0, 1, -1, 1 << 20, 2 << 25, 27 << 25, 31 << 25, 1 << 25 | 1, 1 << 25 | 1 << 30, 1 << 25 | 1 << 31,
            1 << 25 | 2 << 15, 2 << 20, 26 << 25 | 26 << 20, Integer.MAX_VALUE, Integer.MIN_VALUE, (1 << 30) - 1};
        for (int letters : none) {
            due("named(" + letters + ")", x.named(letters), -1);
        }
        Checks.tell(x, C);
        due("c now", x.named(3 << 25), 0);
        due("a no more", x.named(1 << 25), -1);
        x.text(0);
        due("c no more", x.named(3 << 25), -1);
    }

    /** "1 its RAIL (-2 of a wait), 2 its N (0 of on, off); NONE: no such ones." */
    private static void step() {
        PowerRails x = Checks.told(A + C + "on c;off a;wait 99;guard c 7;");
        int[][] all = {{0, 1, 0}, {1, 0, 0}, {2, -2, 99}, {3, 1, 7}};
        for (int k = 0; k < 4; k++) {
            for (int what = 0; what < 3; what++) {
                due("step(" + k + ", " + what + ")", x.step(k, what), all[k][what]);
            }
            for (int what : new int[] {-1, 3, Integer.MAX_VALUE, Integer.MIN_VALUE}) {
                due("step of no what", x.step(k, what), -1);
            }
        }
        for (int k : new int[] {-1, 4, 23, 24, Integer.MAX_VALUE, Integer.MIN_VALUE}) {
            due("no such step", x.step(k, 0), -1);
        }
    }

    public static void main(String[] args) {
        linesNoneOneMany();
        moreMustCome();
        wrongTokens();
        lengthOfWords();
        wordsOfTheLanguage();
        bytes();
        numbers();
        thirteenthRail();
        twentyFirstNeeds();
        twentyFifthStep();
        needsItself();
        nameTwice();
        needsTwice();
        settingsTwice();
        notToldAhead();
        firstFault();
        newObject();
        fullTape();
        textBeyondTheTape();
        firstBytes();
        allAsAtFirst();
        nothingIsLeft();
        faultyTextChangesNothing();
        fault();
        named();
        step();
        Checks.finish("TextEdgesTest");
    }
}
