import java.lang.reflect.Method;
import java.util.HashMap;
import java.util.Map;
import java.util.Random;

/**
 * Drawn runs of up to 512 calls, all acts mixed: the class and its twin, the document written
 * once more, answer alike. An argument tells how many runs, a second one the first of them.
 */
final class TwinTest {
    /** Each act with what its numbers are, one sign each; acts asked for more often stand more often. */
    private static final String[] ACTS = {"place d", "doubt pd", "ofPlace p2", "road pp1r", "road pp0r", "road pp1t",
        "between pp1", "tale kbp", "ofTale t6", "ofTale t6", "change t3h", "change t0b", "change t1d", "change t2p",
        "become tk", "as t6", "feed f8", "law 1iii", "law 1byd", "text 1", "go tp", "go tp", "go tp", "loose s",
        "reach tp2", "cheap tp1", "can ts", "marked t4", "from wt1", "best 1", "late t", "round t", "own t",
        "odds t1", "seed i", "voice t3i", "voice t3d", "trace 8", "sheet wxn", "put wni", "put wnb", "put wnd",
        "move wnwnn", "marks w", "judge w", "image ", "restore ", "tell d", "check ", "count 9", "count 9", "told 6"};
    private static final int[] EDGES = {Integer.MIN_VALUE, -1000000001, -1000000000, -257, -256, -129, -128, -2, -1, 0,
        1, 2, 3, 4, 5, 6, 7, 8, 9, 10, 15, 16, 19, 20, 21, 31, 32, 33, 39, 40, 41, 59, 60, 61, 69, 70, 98, 99, 100,
        127, 128, 255, 256, 257, 9998, 9999, 10000, 32767, 32768, 65535, 65536, Integer.MAX_VALUE};
    private static final int CALLS = 512;

    private final Random random;
    private final BelievedByYard x = new BelievedByYard();
    private final Twin twin = new Twin();
    private final String who;
    private int calls;
    private boolean isAlike = true;

    private static final Map<String, Method> FACE = methodsOf(BelievedByYard.class);
    private static final Map<String, Method> TWINS = methodsOf(Twin.class);

    private TwinTest(int run) {
        random = new Random(run);
        who = "run " + run + ", call ";
    }

    public static void main(String[] args) throws ReflectiveOperationException {
        int runs = args.length > 0 ? Integer.parseInt(args[0]) : 150;
        int first = args.length > 1 ? Integer.parseInt(args[1]) : 0;
        for (int run = first; run < first + runs; run++) {
            new TwinTest(run).goes();
        }
        Due.end();
    }

    private static Map<String, Method> methodsOf(Class<?> c) {
        Map<String, Method> methods = new HashMap<>();
        for (Method m : c.getDeclaredMethods()) {
            methods.put(m.getName(), m);
        }
        return methods;
    }

    private void goes() throws ReflectiveOperationException {
        if (random.nextInt(10) == 0) {
            manySteps();
        }
        if (random.nextInt(4) > 0) {
            world();
        }
        while (calls < CALLS && isAlike) {
            int draw = random.nextInt(25);
            if (draw == 0) {
                aText();
            } else if (draw == 1) {
                aSheetOfWhatIs();
            } else if (draw == 2) {
                manyThatWait();
            } else if (draw == 3) {
                allThought();
            } else if (draw == 4) {
                aMove();
            } else if (draw == 5 && random.nextInt(3) == 0) {
                aFullTape();
            } else {
                any(ACTS[random.nextInt(ACTS.length)]);
            }
        }
    }

    /** Up to about STEP 9999. */
    private void manySteps() throws ReflectiveOperationException {
        ask("seed", random.nextInt());
        for (int i = 0; i < 166; i++) {
            ask("loose", 60);
        }
        ask("loose", 30 + random.nextInt(9));
    }

    private void world() throws ReflectiveOperationException {
        int places = 1 + random.nextInt(7);
        int dense = 1 + random.nextInt(random.nextInt(6) == 0 ? 4 : 2);
        int longest = random.nextBoolean() ? 99 : 8;
        for (int i = 0; i < places; i++) {
            ask("place", random.nextInt(random.nextInt(3) == 0 ? 100 : 25));
            for (int k = 0; k < i; k++) {
                if (random.nextInt(4) < dense) {
                    ask("road", i, k, 0, 1 + random.nextInt(longest));
                    ask("road", k, i, 1, random.nextInt(10) * random.nextInt(2));
                }
            }
        }
        int tales = random.nextInt(8);
        for (int i = 0; i < tales; i++) {
            ask("tale", random.nextInt(70), random.nextInt(256), random.nextInt(places));
        }
    }

    private void any(String act) throws ReflectiveOperationException {
        int space = act.indexOf(' ');
        long[] numbers = new long[act.length() - space - 1];
        for (int i = 0; i < numbers.length; i++) {
            numbers[i] = number(act.charAt(space + 1 + i));
        }
        ask(act.substring(0, space), numbers);
    }

    private long number(char sign) {
        if (random.nextInt(40) == 0) {
            return EDGES[random.nextInt(EDGES.length)];
        }
        if (random.nextInt(20) == 0) {
            return edge(sign);
        }
        switch (sign) {
            case 'p': return random.nextInt(twin.count(0) + (random.nextInt(20) == 0 ? 2 : 1));
            case 't': return random.nextInt(Math.max(1, twin.count(1)));
            case 'd': return random.nextInt(random.nextInt(3) == 0 ? 100 : 25);
            case 'r': return random.nextInt(4) == 0 ? 0 : 1 + random.nextInt(99);
            case 'y': return 1 + random.nextInt(99);
            case 'b': return random.nextInt(256);
            case 'h': return random.nextInt(3) == 0 ? 9900 + random.nextInt(100) : random.nextInt(10);
            case 'k': return random.nextInt(70);
            case 's': return random.nextInt(random.nextBoolean() ? 61 : 6);
            case 'w': return random.nextInt(4);
            case 'x': return new int[] {0, 8, 8, 16, 16, 32, 32}[random.nextInt(7)];
            case 'n': return random.nextInt(random.nextBoolean() ? 3 : 9);
            case 'i': return random.nextBoolean() ? random.nextInt() : EDGES[random.nextInt(EDGES.length)];
            case 'f': return random.nextInt(3) == 0 ? random.nextLong() : word(drawnText(2, "byp"));
            default: return random.nextInt(sign - '0' + 1);
        }
    }

    /** The most that is allowed, or one more; or one below the least. */
    private long edge(char sign) {
        if (random.nextInt(4) == 0) {
            return -1;
        }
        int more = random.nextInt(2);
        switch (sign) {
            case 'p': return twin.count(0) - 1 + more;
            case 't': return twin.count(1) - 1 + more;
            case 'd':
            case 'r':
            case 'y': return 99 + more;
            case 'b': return 255 + more;
            case 'h': return 9999 + more;
            case 'k': return 69 + more;
            case 's': return 60 + more;
            case 'w': return 3 + more;
            case 'n': return 40 + more;
            case 'x':
            case 'i':
            case 'f': return random.nextInt();
            default: return sign - '0' + more;
        }
    }

    // ---- calls that belong together

    private void aText() throws ReflectiveOperationException {
        int use = random.nextInt(2);
        StringBuilder text = new StringBuilder(drawnText(1 + random.nextInt(5), use == 0 ? "byp" : "bdm"));
        if (random.nextInt(3) == 0) {
            spoil(text);
        }
        for (int i = 0; i < text.length(); i += 8) {
            String part = text.substring(i, Math.min(i + 8, text.length()));
            ask("feed", word(part), part.length());
        }
        ask("count", 6);
        ask("text", use);
        for (int i = 0; i < 3; i++) {
            any("law 1iii");
            any("law 1byd");
        }
    }

    private void spoil(StringBuilder text) {
        int i = random.nextInt(text.length());
        switch (random.nextInt(3)) {
            case 0: text.setLength(i); break;
            case 1: text.deleteCharAt(i); break;
            default: text.insert(i, "bypdm019()!|&<=>+-*/% x".charAt(random.nextInt(23))); break;
        }
    }

    private static long word(String part) {
        long word = 0;
        for (int i = Math.min(8, part.length()) - 1; i >= 0; i--) {
            word = word << 8 | part.charAt(i);
        }
        return word;
    }

    private String drawnText(int size, String names) {
        if (size <= 1) {
            int draw = random.nextInt(6);
            String single = draw < 4 ? names.substring(draw % 3, draw % 3 + 1) : "" + random.nextInt(draw == 4 ? 10 : 10000);
            return random.nextInt(8) == 0 ? "!" + single : single;
        }
        String left = drawnText(size / 2, names);
        String right = drawnText(size - size / 2, names);
        String text = left + "|&<=>+-*/%+-*/%".charAt(random.nextInt(15)) + right;
        int draw = random.nextInt(4);
        return draw == 0 ? "(" + text + ")" : draw == 1 && random.nextBoolean() ? "!(" + text + ")" : text;
    }

    /** To 50 bytes and one more, with up to six of ! and ( open at once. */
    private void aFullTape() throws ReflectiveOperationException {
        int use = random.nextInt(2);
        ask("text", use);
        StringBuilder text = new StringBuilder();
        int open = 0;
        for (int n = 4 + random.nextInt(3); open < n; open++) {
            text.append(random.nextBoolean() ? '!' : '(');
        }
        text.append('b');
        for (int i = 0; i < open; i++) {
            text.append(text.charAt(open - 1 - i) == '(' ? ")" : "");
        }
        int most = random.nextInt(3) == 0 ? text.length() : 48 + random.nextInt(4);
        while (text.length() < most) {
            text.append("+b".charAt((most - text.length()) % 2));
        }
        for (int i = 0; i < text.length(); i++) {
            ask("feed", text.charAt(i), 1);
        }
        ask("count", 6);
        ask("text", use);
        any("law 1iii");
        any("law 1byd");
    }

    /** Numbers of one SHEET in another one, seen through MARKS. */
    private void aMove() throws ReflectiveOperationException {
        int one = random.nextInt(4);
        int other = random.nextInt(4);
        int bits = 8 << random.nextInt(3);
        int[] lengths = {random.nextInt(9) == 0 ? 40 : random.nextInt(8), random.nextInt(9) == 0 ? 40 : random.nextInt(8)};
        ask("sheet", one, bits, lengths[0]);
        ask("sheet", other, random.nextInt(9) == 0 ? 16 : bits, lengths[1]);
        for (int i = 0; i < 7; i++) {
            ask("put", one, i, number('b'));
            ask("put", other, i, random.nextInt(128));
        }
        for (int n = 0; n < 4; n++) {
            int length = random.nextInt(8);
            int left = Math.max(0, lengths[0] - length);
            ask("move", one, random.nextInt(left + 2), other, random.nextInt(4), length);
            ask("move", one, left, one, random.nextInt(3), lengths[0] - left);
            ask("marks", other);
            for (int i = 0; i < twin.count(1); i++) {
                ask("ofTale", i, 2);
            }
        }
        ask("move", one, 0, other, 0, lengths[0]);
        ask("move", one, random.nextInt(4) - 1, other, random.nextInt(4) - 1, random.nextInt(4) - 1);
        ask("move", one, lengths[0], other, lengths[1], random.nextInt(2));
        ask("move", one, lengths[0] + random.nextInt(2), other, lengths[1] + random.nextInt(2), 0);
    }

    /** MARKS by a ROW that can be, or YARDS that are, so that FROM and JUDGE find something. */
    private void aSheetOfWhatIs() throws ReflectiveOperationException {
        int tales = twin.count(1);
        int sheet = random.nextInt(4);
        if (tales == 0) {
            return;
        }
        if (random.nextBoolean()) {
            ask("sheet", sheet, 16 << random.nextInt(2), tales);
            for (int i = 0; i < tales; i++) {
                ask("put", sheet, i, twin.ofTale(i, 3));
            }
            ask("judge", sheet);
            return;
        }
        int tale = random.nextInt(tales);
        int length = 1 + random.nextInt(5);
        ask("sheet", sheet, 8 << random.nextInt(3), length);
        int marks = twin.ofTale(tale, 2);
        ask("put", sheet, 0, marks);
        ask("image");
        for (int i = 1; i < length; i++) {
            int at = twin.ofTale(tale, 4);
            for (int p = random.nextInt(7), n = 0; n < 7 && twin.ofTale(tale, 4) == at; n++) {
                p = (p + 1) % 7;
                ask("go", tale, p);
            }
            ask("put", sheet, i, twin.ofTale(tale, 2));
        }
        ask("restore");
        ask("from", sheet, tale, 0);
        ask("from", sheet, tale, 1);
    }

    /** All that would be of one TALE. */
    private void allThought() throws ReflectiveOperationException {
        int tale = (int) number('t');
        ask("round", tale);
        ask("marked", tale, random.nextInt(5));
        ask("can", tale, random.nextInt(61));
        for (int what = 0; what <= 2; what++) {
            int place = (int) number('p');
            ask("reach", tale, place, what);
            ask("reach", tale, place, random.nextInt(3));
            ask("cheap", tale, place, what % 2);
            ask("cheap", tale, place, random.nextInt(2));
            ask("odds", tale, what % 2);
        }
    }

    private void manyThatWait() throws ReflectiveOperationException {
        ask("check");
        int many = random.nextInt(12) == 0 ? 21 : random.nextInt(8);
        for (int i = 0; i < many; i++) {
            ask("tell", i < twin.count(1) && random.nextInt(15) > 0 ? twin.late(i) : random.nextInt(20));
        }
        ask("count", 7);
        ask("check");
    }

    /** Both are asked; behind the first unlike answer the run is over. */
    private void ask(String act, long... numbers) throws ReflectiveOperationException {
        if (calls >= CALLS || !isAlike) {
            return;
        }
        calls++;
        Method face = FACE.get(act);
        Object[] told = new Object[numbers.length];
        StringBuilder call = new StringBuilder(who).append(calls).append(": ").append(act).append('(');
        for (int i = 0; i < numbers.length; i++) {
            boolean isLong = face.getParameterTypes()[i] == long.class;
            told[i] = isLong ? (Object) numbers[i] : (Object) (int) numbers[i];
            call.append(i > 0 ? ", " : "").append(numbers[i]);
        }
        int due = (int) TWINS.get(act).invoke(twin, told);
        int got = (int) face.invoke(x, told);
        isAlike = got == due;
        Due.is(call.append(')').toString(), got, due);
    }
}
