import java.util.HashMap;
import java.util.Map;
import java.util.Random;

/** Promises 12 to 14: THE TAPE, TEXTS and what a USE gives. */
final class TextsTest {
    private static final String[] NAMES = {"byp", "bdm"};
    private static final String[] JOINS = {"|", "&", "<=>", "+-", "*/%"};

    public static void main(String[] args) {
        feed();
        text();
        faults();
        faultsOfAnyTape();
        law();
        lawOfAnyText();
        Due.end();
    }

    private static void feed() {
        BelievedByYard x = new BelievedByYard();
        Due.is("feed(0, 0)", x.feed(0, 0), Due.BEYOND);
        Due.is("feed(0, 9)", x.feed(0, 9), Due.BEYOND);
        Due.is("feed(0, -1)", x.feed(0, -1), Due.BEYOND);
        Due.is("feed(.., 8)", x.feed(0x2b2b2b2b2b2b2b62L, 8), 8);
        for (int i = 2; i <= 6; i++) {
            Due.is("feed(-1, 8)", x.feed(-1L, 8), 8 * i);
        }
        Due.is("feed(0, 3) with 48", x.feed(0, 3), Due.FULL);
        Due.is("feed(0, 9) with 48: BEYOND is asked first", x.feed(0, 9), Due.BEYOND);
        Due.is("feed(0, 2) with 48", x.feed(0, 2), 50);
        Due.is("feed(0, 1) with 50", x.feed(0, 1), Due.FULL);
        Due.is("count(6)", x.count(6), 50);
        Due.is("text(0): the second + is the FAULT", x.text(0), -12);
        Due.is("count(6) then", x.count(6), 0);
        Due.is("feed of b*9, the lowest first", x.feed(0x7777392a62L, 3), 3);
        Due.is("text(0)", x.text(0), 1);
        Due.is("law(0, 7, 0, 0)", x.law(0, 7, 0, 0), 63);
    }

    private static void text() {
        BelievedByYard x = new BelievedByYard();
        Due.feed(x, "b-y");
        Due.is("text(2)", x.text(2), Due.BEYOND);
        Due.is("text(-1)", x.text(-1), Due.BEYOND);
        Due.is("count(6): THE TAPE stays", x.count(6), 3);
        Due.is("text(0)", x.text(0), 1);
        Due.is("count(6): it is empty", x.count(6), 0);
        Due.is("law(0, 9, 2, 0)", x.law(0, 9, 2, 0), 7);
        Due.is("text(0) of nothing", x.text(0), -10);
        Due.is("text(0) of b-", Due.text(x, 0, "b-"), -12);
        Due.is("count(6) behind a FAULT", x.count(6), 0);
        Due.is("law(0, 9, 2, 0): the one ahead stays", x.law(0, 9, 2, 0), 7);
        Due.is("text(0) of y", Due.text(x, 0, "y"), 1);
        Due.is("law(0, 9, 2, 0): in place of it", x.law(0, 9, 2, 0), 2);
        Due.is("law(1, 9, 2, 0): the other USE has none", x.law(1, 9, 2, 0), 1);
        Due.is("told(1)", x.told(1), 2);
        Due.is("told(2): a FAULT is no ERROR", x.told(2), 0);
    }

    private static void faults() {
        String[][] rows = {
            {"0", "b+y*p%3/2-1", "-"}, {"0", "b|y&p<1=2", "7"}, {"0", "b<y<p", "3"}, {"0", "(b<y)<p", "-"},
            {"0", "b<y&y<p", "-"}, {"0", "1234", "-"}, {"0", "12345", "4"}, {"0", "0000", "-"},
            {"0", "00000", "4"}, {"0", "b 1", "1"}, {"0", "-1", "0"}, {"0", "d", "0"}, {"0", "m", "0"},
            {"1", "y", "0"}, {"1", "p", "0"}, {"1", "b*d*m", "-"}, {"0", "bb", "1"}, {"0", "2b", "1"},
            {"0", "b2", "1"}, {"0", "()", "1"}, {"0", "(b", "2"}, {"0", "(b))", "3"}, {"0", ")", "0"},
            {"0", "!!!!!b", "-"}, {"0", "!!!!!!b", "5"}, {"0", "((((( b", "5"}, {"0", "(((((b)))))", "-"},
            {"0", "((((((b))))))", "5"}, {"0", "!(!(!(b", "5"}, {"0", "!(!(!b))", "-"},
            {"0", "!!!!!b+!!!!!b", "-"}, {"0", "(((((b)))))+(((((b)))))", "-"}, {"0", "(!!!!b+!!!!!b)", "11"},
            {"0", "!", "1"}, {"0", "b+", "2"}, {"0", "b|", "2"}, {"0", "|b", "0"}, {"0", "b**y", "2"},
            {"0", "b=y=p", "3"}, {"0", "b>y+p=1", "5"}, {"0", "b!", "1"}, {"0", "b(y)", "1"},
        };
        for (String[] row : rows) {
            int use = Integer.parseInt(row[0]);
            int due = row[2].equals("-") ? 1 : -10 - Integer.parseInt(row[2]);
            Due.is("text(" + use + ") of " + row[1], Due.text(new BelievedByYard(), use, row[1]), due);
        }
        String longest = "b+b+b+b+b+b+b+b+b+b+b+b+b+b+b+b+b+b+b+b+b+b+b+b+b";
        Due.is("text(0) of 50 bytes that end too early", Due.text(new BelievedByYard(), 0, longest + "+"), -60);
        Due.is("text(0) of 49 bytes", Due.text(new BelievedByYard(), 0, longest), 1);
        Due.is("text(0) of 50 bytes", Due.text(new BelievedByYard(), 0, longest + "+y".substring(1, 2)), -59);
        Due.is("text(0) of 50 bytes that hold", Due.text(new BelievedByYard(), 0, longest.substring(2) + "+12"), 1);
    }

    /** The FAULT by its definition: how many bytes can be kept so that some TEXT goes on with them. */
    private static void faultsOfAnyTape() {
        Random random = new Random(7);
        String signs = "byp019!(()+-*/%<=>&|dm";
        BelievedByYard x = new BelievedByYard();
        for (int run = 0; run < 6000; run++) {
            if (run % 20 == 0) {
                x = new BelievedByYard();
            }
            int use = random.nextInt(2);
            StringBuilder tape = new StringBuilder();
            int length = 1 + random.nextInt(9);
            while (tape.length() < length) {
                tape.append(signs.charAt(random.nextInt(signs.length())));
                if (random.nextInt(3) > 0 && !goesOn(tape.toString(), use)) {
                    tape.setLength(tape.length() - 1);
                }
            }
            String all = tape.toString();
            int kept = 0;
            while (kept < length && goesOn(all.substring(0, kept + 1), use)) {
                kept++;
            }
            int due = isJoined(all, 0, use, 0, new HashMap<>()) ? 1 : -10 - kept;
            Due.is("text(" + use + ") of " + all, Due.text(x, use, all), due);
        }
    }

    private static boolean goesOn(String start, int use) {
        for (String middle : new String[] {"", "b"}) {
            StringBuilder closed = new StringBuilder(start).append(middle);
            for (int k = 0; k <= 6; k++) {
                if (isJoined(closed.toString(), 0, use, 0, new HashMap<>())) {
                    return true;
                }
                closed.append(')');
            }
        }
        return false;
    }

    /** By trying every sign at which a text could be parted, unlike the program. */
    private static boolean isJoined(String s, int level, int use, int open, Map<String, Boolean> known) {
        if (level == 5) {
            return isSingle(s, use, open, known);
        }
        String key = level + " " + open + " " + s;
        Boolean before = known.get(key);
        if (before != null) {
            return before;
        }
        boolean is = isJoined(s, level + 1, use, open, known);
        for (int i = 1; i < s.length() - 1 && !is; i++) {
            is = JOINS[level].indexOf(s.charAt(i)) >= 0
                && isJoined(s.substring(0, i), level == 2 ? 3 : level, use, open, known)
                && isJoined(s.substring(i + 1), level + 1, use, open, known);
        }
        known.put(key, is);
        return is;
    }

    private static boolean isSingle(String s, int use, int open, Map<String, Boolean> known) {
        if (s.matches("[0-9]{1,4}") || (s.length() == 1 && NAMES[use].contains(s))) {
            return true;
        }
        if (s.length() < 2 || open == 5) {
            return false;
        }
        if (s.charAt(0) == '!') {
            return isSingle(s.substring(1), use, open + 1, known);
        }
        return s.charAt(0) == '(' && s.endsWith(")")
            && isJoined(s.substring(1, s.length() - 1), 0, use, open + 1, known);
    }

    private static void law() {
        BelievedByYard x = new BelievedByYard();
        Due.is("law(-1, 0, 0, 0)", x.law(-1, 0, 0, 0), Due.BEYOND);
        Due.is("law(2, 0, 0, 0)", x.law(2, 0, 0, 0), Due.BEYOND);
        Due.is("law(0, ..) that wraps", x.law(0, Integer.MAX_VALUE, 1, 0), Integer.MIN_VALUE);
        Due.is("told(1): no ERROR by its value", x.told(1), 2);
        int least = Integer.MIN_VALUE;
        laws("b/y", 7, -2, 0, -3);
        laws("b/y", -7, 2, 0, -3);
        laws("b%y", -7, 2, 0, -1);
        laws("b%y", 7, -2, 0, 1);
        laws("b/y", 7, 0, 0, 0);
        laws("b%y", 7, 0, 0, 0);
        laws("b/y", least, -1, 0, least);
        laws("b%y", least, -1, 0, 0);
        laws("b-y-p", 10, 3, 2, 5);
        laws("b/y/p", 100, 5, 2, 10);
        laws("b-y*p", 10, 3, 2, 4);
        laws("(b-y)*p", 10, 3, 2, 14);
        laws("b*y+p", 65536, 65536, 3, 3);
        laws("b<y", 1, 2, 0, 1);
        laws("b<y", 2, 2, 0, 0);
        laws("b>y", 2, 1, 0, 1);
        laws("b>y", 2, 2, 0, 0);
        laws("b=y", 2, 2, 0, 1);
        laws("b=y", 2, 3, 0, 0);
        laws("b&y", 2, 4, 0, 1);
        laws("b&y", 2, 0, 0, 0);
        laws("b|y", 0, 8, 0, 1);
        laws("b|y", 0, 0, 0, 0);
        laws("b|y&p", 1, 0, 0, 1);
        laws("b|y&p", 0, 1, 0, 0);
        laws("!b", 0, 0, 0, 1);
        laws("!b", -5, 0, 0, 0);
        laws("!!b", 7, 0, 0, 1);
        laws("!b+5", 0, 0, 0, 6);
        laws("!(b+5)", 0, 0, 0, 0);
        laws("b+y<p", 1, 2, 4, 1);
        laws("9999*b", 2, 0, 0, 19998);
        laws("0012", 0, 0, 0, 12);
        laws("p", 1, 2, 3, 3);
        x = new BelievedByYard();
        Due.text(x, 1, "b*100+d*10+m-235");
        Due.is("law(1, ..) held at 1", x.law(1, 2, 4, 6), 1);
        Due.is("law(1, ..) that gives 1", x.law(1, 2, 3, 6), 1);
        Due.is("law(1, ..) that gives 0", x.law(1, 2, 3, 5), 0);
        Due.is("law(1, ..) held at 0", x.law(1, 2, 2, 5), 0);
    }

    private static void laws(String text, int a, int b, int c, int due) {
        BelievedByYard x = new BelievedByYard();
        Due.is("text(0) of " + text, Due.text(x, 0, text), 1);
        Due.is(text + " as law(0, " + a + ", " + b + ", " + c + ")", x.law(0, a, b, c), due);
    }

    private static void lawOfAnyText() {
        Random random = new Random(11);
        for (int run = 0; run < 3000; run++) {
            int use = random.nextInt(2);
            String text = anyText(random, 0, use, 0);
            if (text.length() > 50) {
                continue;
            }
            BelievedByYard x = new BelievedByYard();
            Due.is("text(" + use + ") of " + text, Due.text(x, use, text), 1);
            int[] v = new int[3];
            for (int i = 0; i < 3; i++) {
                v[i] = random.nextInt(4) == 0 ? random.nextInt() : random.nextInt(21) - 10;
            }
            int due = value(text, 0, use, v);
            due = use == 0 ? due : Math.max(0, Math.min(1, due));
            Due.is(text + " of " + v[0] + ", " + v[1] + ", " + v[2], x.law(use, v[0], v[1], v[2]), due);
        }
    }

    private static String anyText(Random random, int level, int use, int open) {
        if (level < 5) {
            StringBuilder s = new StringBuilder(anyText(random, level + 1, use, open));
            int most = level == 2 ? 1 : 2;
            for (int i = 0; i < most && random.nextInt(4) == 0; i++) {
                s.append(JOINS[level].charAt(random.nextInt(JOINS[level].length())));
                s.append(anyText(random, level + 1, use, open));
            }
            return s.toString();
        }
        int kind = random.nextInt(open < 5 ? 6 : 4);
        if (kind < 3) {
            return NAMES[use].substring(kind, kind + 1);
        }
        if (kind == 3) {
            return String.valueOf(random.nextInt(random.nextBoolean() ? 10 : 10000));
        }
        return kind == 4 ? "!" + anyText(random, 5, use, open + 1) : "(" + anyText(random, 0, use, open + 1) + ")";
    }

    /** By parting the text at its last sign of the lowest level, unlike the program. */
    private static int value(String s, int level, int use, int[] v) {
        if (level == 5) {
            if (s.charAt(0) == '!') {
                return value(s.substring(1), 5, use, v) == 0 ? 1 : 0;
            }
            if (s.charAt(0) == '(') {
                return value(s.substring(1, s.length() - 1), 0, use, v);
            }
            int name = NAMES[use].indexOf(s);
            return name >= 0 ? v[name] : Integer.parseInt(s);
        }
        int closed = 0;
        for (int i = s.length() - 1; i > 0; i--) {
            char c = s.charAt(i);
            closed += c == ')' ? 1 : c == '(' ? -1 : 0;
            if (closed == 0 && JOINS[level].indexOf(c) >= 0) {
                return join(c, value(s.substring(0, i), level, use, v), value(s.substring(i + 1), level + 1, use, v));
            }
        }
        return value(s, level + 1, use, v);
    }

    private static int join(char c, long a, long b) {
        switch (c) {
            case '|': return a != 0 || b != 0 ? 1 : 0;
            case '&': return a != 0 && b != 0 ? 1 : 0;
            case '<': return a < b ? 1 : 0;
            case '=': return a == b ? 1 : 0;
            case '>': return a > b ? 1 : 0;
            case '+': return (int) (a + b);
            case '-': return (int) (a - b);
            case '*': return (int) (a * b);
            case '/': return b == 0 ? 0 : (int) (a / b);
            default: return b == 0 ? 0 : (int) (a % b);
        }
    }
}
