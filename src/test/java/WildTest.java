/**
 * Texts and calls without sense, drawn by a fixed rule: each text has the fault that a second, plain reading
 * finds, and no call throws but where the document says so.
 */
public final class WildTest {
    private static final String[] WORDS = {"rail", "source", "needs", "on", "off", "wait", "guard", "droop", "fall",
        "low", "filter", "retry", "budget", "seed"};
    /** What stands behind each word: W a new name, P a parent, R a rail, S a second one, numbers by their letter. */
    private static final String[] SHAPES = {"WPabcde;", null, "RS;", "R;", "R;", "f;", "Rf;", "g;", "h;", "i;", "j;",
        "kf;", "l;", "m;"};
    private static final String NUMBERS = "abcdefghijklm";
    private static final int[] LEAST = {1, 1, 0, 0, 1, 1, 1, 1, 1, 1, 0, 1, 0};
    private static final int[] MOST = {9999, 9999, 99, 999, 99999, 99, 999, 9999, 100, 9, 9, 999999, 99999};

    private static long number = 977;

    private static int draw(int modulo) {
        number = number * 6364136223846793005L + 1442695040888963407L;
        return (int) ((number >>> 33) % modulo);
    }

    private static int wild() {
        int[] odd = {0, -1, 1, -2, 2, 12, 50, 51, 300, 301, 700, 9999, 10000, 99999, 100000, Integer.MAX_VALUE,
            Integer.MIN_VALUE, 1 << 25, 2 << 25};
        return draw(3) == 0 ? odd[draw(odd.length)] : draw(3) == 0 ? (int) number : draw(15);
    }

    private static String drawText() {
        StringBuilder t = new StringBuilder();
        int lines = draw(12);
        for (int k = 0; k < lines && t.length() < 600; k++) {
            int word = draw(3) == 0 ? draw(14) : draw(3) == 0 ? 0 : 2 + draw(5);
            t.append(WORDS[word]).append(' ');
            String shape = SHAPES[word] == null ? "W;" : SHAPES[word];
            for (char c : shape.toCharArray()) {
                if (draw(60) == 0) {
                    continue;
                }
                int i = NUMBERS.indexOf(c);
                if (c == ';') {
                    t.append(draw(3) == 0 ? " ;\n" : ";");
                } else if (draw(60) == 0) {
                    t.append(new String[] {"7", "zz", "abcdefg", "source", ";", "on", "\t", "A", "-", "\u00e9"}[draw(10)]);
                } else if (i >= 0) {
                    int n = draw(20) == 0 ? MOST[i] + draw(2) : draw(20) == 0 ? draw(2) : 1 + draw(MOST[i]);
                    t.append(n).append(draw(40) == 0 ? "99999999999" : "").append(' ');
                } else if (c == 'P' && draw(2) == 0) {
                    t.append("source ");
                } else {
                    t.append((char) ('a' + draw(c == 'W' ? 26 : 5))).append(draw(9) == 0 ? "bcdef" : "").append(' ');
                }
            }
        }
        return t.toString();
    }

    /** The fault of a text times 1000, and its place; how many lines, below 0, if there is none. */
    private static int plainly(String text) {
        java.util.regex.Matcher tokens = java.util.regex.Pattern.compile("[a-z]+|[0-9]+|[^ \\n]").matcher(text);
        java.util.List<String> rails = new java.util.ArrayList<>();
        java.util.Set<String> told = new java.util.HashSet<>();
        java.util.List<String> words = java.util.Arrays.asList(WORDS);
        int steps = 0, needs = 0, lines = 0;
        String shape = null, fresh = null, first = null;
        while (tokens.find()) {
            String t = tokens.group();
            int at = tokens.start();
            int word = words.indexOf(t);
            boolean name = t.matches("[a-z]{1,6}") && word < 0;
            if (shape == null) {
                if (word < 0 || word == 1) return 1000 + at;
                shape = SHAPES[word];
                if (word == 0 && rails.size() == 12) return 2000 + at;
                if (word == 2 && ++needs > 20) return 2000 + at;
                if (word >= 3 && word <= 6 && ++steps > 24) return 2000 + at;
                if (word >= 7 && !told.add(t)) return 3000 + at;
                fresh = null;
                first = null;
                continue;
            }
            char due = shape.charAt(0);
            shape = shape.substring(1);
            int i = NUMBERS.indexOf(due);
            if (due == ';') {
                if (!t.equals(";")) return 1000 + at;
                if (fresh != null) rails.add(fresh);
                lines++;
                shape = null;
            } else if (i >= 0) {
                if (!t.matches("[0-9]+")) return 1000 + at;
                java.math.BigInteger n = new java.math.BigInteger(t);
                if (n.compareTo(java.math.BigInteger.valueOf(LEAST[i])) < 0) return 2000 + at;
                if (n.compareTo(java.math.BigInteger.valueOf(MOST[i])) > 0) return 2000 + at;
            } else if (due == 'P' && t.equals("source")) {
                continue;
            } else {
                if (!name) return 1000 + at;
                if (due == 'W' && rails.contains(t)) return 3000 + at;
                if (due == 'W') {
                    fresh = t;
                    continue;
                }
                if (due == 'S' && t.equals(first)) return 2000 + at;
                if (!rails.contains(t)) return 4000 + at;
                if (due == 'S' && !told.add(first + " " + t)) return 3000 + at;
                first = t;
            }
        }
        return shape == null ? -lines : 1000 + text.length();
    }

    private static void texts() {
        int right = 0;
        for (int k = 0; k < 20000; k++) {
            String text = drawText();
            PowerRails x = new PowerRails();
            int lines = Checks.tell(x, text);
            int plain = plainly(text);
            if (plain <= 0) right++;
            int got = lines < 0 ? x.fault(0) * 1000 + x.fault(1) : -lines;
            if (got != plain) System.out.println(text);
            Checks.due("a text", got, plain);
            Checks.due("fault of a right one", x.fault(0) == 0 ? 1 : 0, lines >= 0 ? 1 : 0);
        }
        Checks.due("many were right", right > 2000 ? 1 : 0, 1);
    }

    private static void call(PowerRails x) {
        int a = wild(), b = wild(), c = wild(), d = wild();
        boolean yes = draw(2) == 0;
        switch (draw(36)) {
            case 0: x.feed(a, b, c, d, a); break;
            case 1: if (draw(9) == 0) x.text(a); break;
            case 2: x.fault(a); break;
            case 3: x.named(a); break;
            case 4: x.tick(a); break;
            case 5: x.ask(a, yes); break;
            case 6: x.begin(); break;
            case 7: x.load(a, b); break;
            case 8: x.limit(a, b); break;
            case 9: Checks.rail(x, a, b); break;
            case 10: x.hangs(a, b); break;
            case 11: x.waiting(a, yes); break;
            case 12: x.sequence(a); break;
            case 13: x.step(a, b); break;
            case 14: x.why(a); break;
            case 15: x.ring(a); break;
            case 16: x.never(a); break;
            case 17: x.order(a); break;
            case 18: x.heat(); break;
            case 19: x.ahead(a, b, c); break;
            case 20: x.peak(a); break;
            case 21: x.quiet(); break;
            case 22: x.leastLimit(a); break;
            case 23: x.ifLoad(a, b); break;
            case 24: x.ifOff(a); break;
            case 25: x.bestOff(a); break;
            case 26: x.total(); break;
            case 27: x.log(a, b); break;
            case 28: x.chance(a, b, c, d); break;
            case 29: x.undo(); break;
            case 30: x.keep(); break;
            case 31: x.back(); break;
            case 32: x.count(a); break;
            case 33: x.tick(1 + draw(50)); break;
            default: x.ask(draw(12), yes); break;
        }
    }

    private static void calls() {
        for (int k = 0; k < 400; k++) {
            PowerRails x = new PowerRails();
            for (int tries = 0; tries < 5 && x.count(0) < 2; tries++) {
                Checks.tell(x, drawText());
            }
            String last = "";
            try {
                for (int n = 0; n < 500; n++) {
                    call(x);
                }
            } catch (RuntimeException e) {
                last = e.toString();
                e.printStackTrace(System.out);
            }
            Checks.due("calls without sense", last.length(), 0);
        }
    }

    public static void main(String[] args) {
        texts();
        calls();
        Checks.finish("WildTest");
    }
}
