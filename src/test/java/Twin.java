import java.io.ByteArrayOutputStream;
import java.lang.reflect.Array;
import java.math.BigInteger;
import java.util.ArrayList;
import java.util.Arrays;
import java.util.List;
import java.util.TreeSet;

/**
 * The document once more, in plain Java with its library, by other means than the class: what is
 * refused is thrown, SHEETS are Java's own rows, ROWS of STEPS are listed. Where the document leaves
 * a choice (NOTES.md), it is the same one.
 */
final class Twin {
    private static final class Refused extends RuntimeException {
        private static final long serialVersionUID = 1L;
        private final int k;

        Refused(int k) {
            super(null, null, false, false);
            this.k = k;
        }
    }

    private interface Act {
        int now();
    }

    private static final int BEYOND = 1;
    private static final int NONE = 2;
    private static final int STATE = 3;
    private static final int FULL = 4;
    private static final int KIND = 5;

    /** All that an IMAGE keeps. */
    private static final class All {
        final List<Integer> doubts = new ArrayList<>();
        final int[][] yards = new int[7][7];
        final int[][] tolls = new int[7][7];
        final List<TwinTale> tales = new ArrayList<>();
        final TwinText.Value[] texts = new TwinText.Value[2];
        byte[] tape = {};
        final List<Integer> waiting = new ArrayList<>();
        int step;
        int z = 1;

        All copy() {
            All copy = new All();
            copy.doubts.addAll(doubts);
            for (int i = 0; i < 7; i++) {
                copy.yards[i] = yards[i].clone();
                copy.tolls[i] = tolls[i].clone();
            }
            for (TwinTale tale : tales) {
                copy.tales.add(tale.as(10 * tale.kind + tale.m));
            }
            copy.texts[0] = texts[0];
            copy.texts[1] = texts[1];
            copy.tape = tape.clone();
            copy.waiting.addAll(waiting);
            copy.step = step;
            copy.z = z;
            return copy;
        }
    }

    private All all = new All();
    private All image;
    private int images;
    private final Object[] sheets = new Object[4];
    private List<Integer> trace = new ArrayList<>();
    private final int[] told = new int[6];

    // ---- places, roads, tales

    int place(int doubt) {
        return act(() -> {
            within(doubt, 0, 99);
            if (all.doubts.size() == 7) {
                throw new Refused(FULL);
            }
            all.doubts.add(doubt);
            return all.doubts.size() - 1;
        });
    }

    int doubt(int place, int v) {
        return act(() -> {
            placed(place);
            within(v, 0, 99);
            return all.doubts.set(place, v);
        });
    }

    int ofPlace(int place, int what) {
        return act(() -> {
            placed(place);
            within(what, 0, 2);
            int set = 0;
            int fame = 0;
            for (TwinTale tale : all.tales) {
                set += tale.at == place ? 1 << tale.number : 0;
                fame += tale.at == place && believed(tale, place) ? 1 : 0;
            }
            return new int[] {all.doubts.get(place), set, fame}[what];
        });
    }

    int road(int one, int other, int what, int v) {
        return act(() -> {
            int before = ofRoad(one, other, what);
            within(v, 0, what == 0 ? 99 : 9);
            int[][] of = what == 0 ? all.yards : all.tolls;
            of[one][other] = v;
            of[other][one] = v;
            return before;
        });
    }

    int between(int one, int other, int what) {
        return act(() -> ofRoad(one, other, what));
    }

    private int ofRoad(int one, int other, int what) {
        placed(one);
        placed(other);
        within(what, 0, 1);
        if (one == other) {
            throw new Refused(BEYOND);
        }
        return what == 0 ? all.yards[one][other] : all.tolls[one][other];
    }

    int tale(int km, int marks, int place) {
        return act(() -> {
            within(km, 0, 69);
            within(marks, 0, 255);
            placed(place);
            if (all.tales.size() == 7) {
                throw new Refused(FULL);
            }
            TwinTale tale = TwinTale.of(all.tales.size(), km);
            tale.marks = marks;
            tale.at = place;
            all.tales.add(tale);
            return tale.number;
        });
    }

    int ofTale(int number, int what) {
        return act(() -> {
            TwinTale tale = toldTale(number);
            within(what, 0, 6);
            int believed = believed(tale, tale.at) ? 1 : 0;
            return new int[] {tale.kind, tale.m, tale.marks, tale.yards, tale.at, tale.costs, believed}[what];
        });
    }

    int change(int number, int what, int v) {
        return act(() -> {
            TwinTale tale = toldTale(number);
            within(what, 0, 3);
            int before;
            if (what == 0) {
                within(v, 0, 255);
                before = tale.marks;
                tale.marks = v;
            } else if (what == 1) {
                within(v, 0, TwinTale.HELD);
                before = tale.yards;
                tale.yards = v;
            } else if (what == 2) {
                placed(v);
                before = tale.at;
                tale.at = v;
            } else {
                within(v, 0, TwinTale.HELD);
                before = tale.costs;
                tale.costs = v;
            }
            return before;
        });
    }

    int become(int number, int km) {
        return act(() -> {
            TwinTale tale = toldTale(number);
            within(km, 0, 69);
            all.tales.set(number, tale.as(km));
            return tale.kind;
        });
    }

    int as(int number, int kind) {
        return act(() -> {
            TwinTale tale = toldTale(number);
            within(kind, 0, 6);
            if (!tale.is(kind)) {
                throw new Refused(KIND);
            }
            return tale.m;
        });
    }

    // ---- texts

    int feed(long word, int n) {
        return act(() -> {
            within(n, 1, 8);
            if (all.tape.length + n > 50) {
                throw new Refused(FULL);
            }
            ByteArrayOutputStream longer = new ByteArrayOutputStream();
            longer.writeBytes(all.tape);
            byte[] bytes = BigInteger.valueOf(word).toByteArray();
            for (int i = 0; i < n; i++) {
                int fill = word < 0 ? -1 : 0;
                longer.write(i < bytes.length ? bytes[bytes.length - 1 - i] : fill);
            }
            all.tape = longer.toByteArray();
            return all.tape.length;
        });
    }

    int text(int use) {
        return act(() -> {
            within(use, 0, 1);
            TwinText read = new TwinText(all.tape, use == 0 ? "byp" : "bdm");
            all.tape = new byte[0];
            if (read.fault >= 0) {
                return -10 - read.fault;
            }
            all.texts[use] = read.value;
            return 1;
        });
    }

    int law(int use, int a, int b, int c) {
        return act(() -> {
            within(use, 0, 1);
            return use == 0 ? growing(a, b, c) : sounding(a, b, c);
        });
    }

    private int growing(int b, int y, int p) {
        return all.texts[0] == null ? b + y : all.texts[0].of(b, y, p);
    }

    private int sounding(int b, int d, int m) {
        int v = all.texts[1] == null ? 1 : all.texts[1].of(b, d, m);
        return v > 0 ? 1 : 0;
    }

    // ---- steps

    int go(int number, int place) {
        return act(() -> {
            TwinTale tale = toldTale(number);
            placed(place);
            if (all.yards[tale.at][place] == 0 || all.step == TwinTale.HELD) {
                throw new Refused(STATE);
            }
            walk(tale, place);
            return believed(tale, place) ? 1 : 0;
        });
    }

    int loose(int n) {
        return act(() -> {
            within(n, 1, 60);
            if (all.step + n > TwinTale.HELD) {
                throw new Refused(STATE);
            }
            int went = 0;
            for (int i = 0; i < n; i++) {
                int one = drawn() % 7;
                int other = drawn() % 7;
                boolean goes = one < all.tales.size() && all.yards[all.tales.get(one).at][other] > 0;
                if (goes) {
                    walk(all.tales.get(one), other);
                    went++;
                } else {
                    all.step++;
                }
            }
            return went;
        });
    }

    private int drawn() {
        BigInteger z = BigInteger.valueOf(all.z).multiply(BigInteger.valueOf(1103515245));
        all.z = z.add(BigInteger.valueOf(12345)).intValue();
        return (int) ((all.z & 0xffffffffL) / 256);
    }

    private void walk(TwinTale tale, int place) {
        int y = all.yards[tale.at][place];
        tale.marks = tale.marksOf(growing(tale.marks, y, tale.at), tale.marks, y) & 255;
        tale.yards = Math.min(TwinTale.HELD, tale.yards + tale.wayOf(y));
        tale.costs = Math.min(TwinTale.HELD, tale.costs + all.tolls[tale.at][place]);
        tale.at = place;
        all.step++;
    }

    private boolean believed(TwinTale tale, int place) {
        return tale.yards >= all.doubts.get(place) && sounding(tale.marks, all.doubts.get(place), tale.m) == 1;
    }

    // ---- what would be

    /** A TALE behind a ROW of STEPS. */
    private static final class Walked {
        final int[] places;
        final int[] marks;
        final TwinTale then;

        Walked(int[] places, int[] marks, TwinTale then) {
            this.places = places;
            this.marks = marks;
            this.then = then;
        }
    }

    /** Of all ROWS of n STEPS, the first by PLACES first. */
    private List<Walked> rows(TwinTale tale, int n) {
        List<Walked> rows = List.of(new Walked(new int[] {}, new int[] {tale.marks}, tale));
        int step = all.step;
        for (int i = 0; i < n; i++) {
            List<Walked> longer = new ArrayList<>();
            for (Walked row : rows) {
                for (int p = 0; p < all.doubts.size(); p++) {
                    if (all.yards[row.then.at][p] > 0) {
                        TwinTale then = row.then.as(10 * tale.kind + tale.m);
                        walk(then, p);
                        longer.add(new Walked(and(row.places, p), and(row.marks, then.marks), then));
                    }
                }
            }
            rows = longer;
        }
        all.step = step;
        return rows;
    }

    private static int[] and(int[] row, int v) {
        int[] longer = Arrays.copyOf(row, row.length + 1);
        longer[row.length] = v;
        return longer;
    }

    int reach(int number, int place, int what) {
        return act(() -> {
            TwinTale tale = toldTale(number);
            placed(place);
            within(what, 0, 2);
            for (int n = 0; n <= 5; n++) {
                for (Walked row : rows(tale, n)) {
                    if (row.then.at == place && believed(row.then, place)) {
                        return new int[] {n, n == 0 ? tale.at : row.places[0], row.then.marks}[what];
                    }
                }
            }
            throw new Refused(NONE);
        });
    }

    int cheap(int number, int place, int what) {
        return act(() -> {
            TwinTale tale = toldTale(number);
            placed(place);
            within(what, 0, 1);
            int[] best = {Integer.MAX_VALUE, Integer.MAX_VALUE};
            ways(tale.at, place, new TreeSet<>(), 0, 0, best);
            if (best[0] == Integer.MAX_VALUE) {
                throw new Refused(NONE);
            }
            return best[what];
        });
    }

    private void ways(int at, int goal, TreeSet<Integer> been, int toll, int yards, int[] best) {
        if (at == goal) {
            if (toll < best[0] || (toll == best[0] && yards < best[1])) {
                best[0] = toll;
                best[1] = yards;
            }
            return;
        }
        been.add(at);
        for (int p = 0; p < all.doubts.size(); p++) {
            if (all.yards[at][p] > 0 && !been.contains(p)) {
                ways(p, goal, been, toll + all.tolls[at][p], yards + all.yards[at][p], best);
            }
        }
        been.remove(at);
    }

    int can(int number, int n) {
        return act(() -> {
            TwinTale tale = toldTale(number);
            within(n, 0, 60);
            TreeSet<Integer> at = new TreeSet<>(List.of(tale.at));
            for (int i = 0; i < n; i++) {
                TreeSet<Integer> then = new TreeSet<>();
                for (int from : at) {
                    for (int to = 0; to < 7; to++) {
                        if (all.yards[from][to] > 0) {
                            then.add(to);
                        }
                    }
                }
                at = then;
            }
            int set = 0;
            for (int p : at) {
                set += 1 << p;
            }
            return set;
        });
    }

    int marked(int number, int n) {
        return act(() -> {
            TwinTale tale = toldTale(number);
            within(n, 0, 4);
            TreeSet<Integer> unlike = new TreeSet<>();
            for (Walked row : rows(tale, n)) {
                unlike.add(row.then.marks);
            }
            return unlike.size();
        });
    }

    int from(int sheet, int number, int what) {
        return act(() -> {
            within(sheet, 0, 3);
            TwinTale tale = toldTale(number);
            within(what, 0, 1);
            if (sheets[sheet] == null || Array.getLength(sheets[sheet]) < 1 || Array.getLength(sheets[sheet]) > 5) {
                throw new Refused(NONE);
            }
            int[] wanted = numbers(sheet);
            int many = 0;
            int least = 7;
            for (Walked row : rows(tale, wanted.length - 1)) {
                if (Arrays.equals(row.marks, wanted)) {
                    many++;
                    least = Math.min(least, row.then.at);
                }
            }
            if (what == 1 && many == 0) {
                throw new Refused(NONE);
            }
            return what == 0 ? many : least;
        });
    }

    int best(int what) {
        return act(() -> {
            within(what, 0, 1);
            if (all.doubts.isEmpty()) {
                throw new Refused(NONE);
            }
            int best = -1;
            int most = -1;
            for (int p = all.doubts.size() - 1; p >= 0; p--) {
                int many = 0;
                for (TwinTale tale : all.tales) {
                    many += believed(tale, p) ? 1 : 0;
                }
                if (many >= most) {
                    most = many;
                    best = p;
                }
            }
            return what == 0 ? best : most;
        });
    }

    int late(int number) {
        return act(() -> lateOf(toldTale(number)));
    }

    private int lateOf(TwinTale tale) {
        int doubt = all.doubts.get(tale.at);
        return tale.yards >= doubt ? 0 : doubt - tale.yards;
    }

    int round(int number) {
        return act(() -> {
            TwinTale tale = toldTale(number);
            for (int n = 1; n <= 5; n++) {
                for (Walked row : rows(tale, n)) {
                    if (row.then.at == tale.at && row.then.marks == tale.marks) {
                        return n;
                    }
                }
            }
            throw new Refused(NONE);
        });
    }

    int own(int number) {
        return act(() -> {
            TwinTale tale = toldTale(number);
            int set = 0;
            for (TwinTale other : all.tales) {
                int unlike = 0;
                for (int bit = 1; bit < 256; bit *= 2) {
                    unlike += (tale.marks & bit) == (other.marks & bit) ? 0 : 1;
                }
                set += other != tale && unlike < 3 ? 1 << other.number : 0;
            }
            return set;
        });
    }

    int odds(int number, int part) {
        return act(() -> {
            TwinTale tale = toldTale(number);
            within(part, 0, 1);
            int good = 0;
            for (int p = 0; p < all.doubts.size(); p++) {
                good += believed(tale, p) ? 1 : 0;
            }
            BigInteger above = BigInteger.valueOf(good);
            BigInteger below = BigInteger.valueOf(all.doubts.size());
            return (part == 0 ? above : below).divide(above.gcd(below)).intValue();
        });
    }

    // ---- draws, voices, sheets, images, what is told

    int seed(int v) {
        int before = all.z;
        all.z = v;
        return before;
    }

    int voice(int number, int act, int x) {
        return act(() -> {
            TwinTale tale = toldTale(number);
            within(act, 0, 3);
            trace = new ArrayList<>();
            tale.trace = trace;
            switch (act) {
                case 0: return tale.walks(x);
                case 1: return tale.grows(x);
                case 2: return tale.limps(x);
                default: return tale.tells(x);
            }
        });
    }

    int trace(int i) {
        return act(() -> {
            if (i < 0 || i >= Math.min(40, trace.size())) {
                throw new Refused(NONE);
            }
            return trace.get(i);
        });
    }

    int sheet(int sheet, int bits, int n) {
        return act(() -> {
            within(sheet, 0, 3);
            if (bits != 0 && bits != 8 && bits != 16 && bits != 32) {
                throw new Refused(BEYOND);
            }
            if (bits == 0) {
                sheets[sheet] = null;
                return 1;
            }
            if (n < 0) {
                throw new Refused(STATE);
            }
            within(n, 0, 40);
            sheets[sheet] = bits == 8 ? new byte[n] : bits == 16 ? new short[n] : new int[n];
            return 1;
        });
    }

    int put(int sheet, int i, int v) {
        return act(() -> {
            Object row = toldSheet(sheet);
            within(i, 0, Array.getLength(row) - 1);
            if (row instanceof byte[]) {
                ((byte[]) row)[i] = (byte) v;
            } else if (row instanceof short[]) {
                ((short[]) row)[i] = (short) v;
            } else {
                ((int[]) row)[i] = v;
            }
            return 1;
        });
    }

    int move(int sheet, int i, int other, int j, int n) {
        return act(() -> {
            within(sheet, 0, 3);
            within(other, 0, 3);
            Object row = toldSheet(sheet);
            Object goal = toldSheet(other);
            try {
                System.arraycopy(row, i, goal, j, n);
            } catch (ArrayStoreException e) {
                throw new Refused(KIND);
            } catch (IndexOutOfBoundsException e) {
                throw new Refused(BEYOND);
            }
            return n;
        });
    }

    int marks(int sheet) {
        return act(() -> {
            toldSheet(sheet);
            int[] row = numbers(sheet);
            int n = 0;
            while (n < row.length && n < all.tales.size() && row[n] >= 0 && row[n] <= 255) {
                all.tales.get(n).marks = row[n];
                n++;
            }
            return n;
        });
    }

    int judge(int sheet) {
        return act(() -> {
            toldSheet(sheet);
            int[] yards = new int[all.tales.size()];
            for (TwinTale tale : all.tales) {
                yards[tale.number] = tale.yards;
            }
            return Arrays.mismatch(yards, numbers(sheet));
        });
    }

    int image() {
        image = all.copy();
        return ++images;
    }

    int restore() {
        return act(() -> {
            if (image == null) {
                throw new Refused(NONE);
            }
            all = image.copy();
            return all.step;
        });
    }

    int tell(int v) {
        return act(() -> {
            if (all.waiting.size() == 20) {
                throw new Refused(FULL);
            }
            all.waiting.add(v);
            return all.waiting.size();
        });
    }

    int check() {
        int wrong = 0;
        for (int i = all.waiting.size() - 1; i >= 0; i--) {
            boolean so = i < all.tales.size() && lateOf(all.tales.get(i)) == all.waiting.get(i);
            wrong = so ? wrong : 1 + i;
        }
        all.waiting.clear();
        return wrong;
    }

    int count(int what) {
        return act(() -> {
            within(what, 0, 9);
            int yards = 0;
            int costs = 0;
            int believed = 0;
            for (TwinTale tale : all.tales) {
                yards += tale.yards;
                costs += tale.costs;
                believed += believed(tale, tale.at) ? 1 : 0;
            }
            return new int[] {all.doubts.size(), all.tales.size(), all.step, yards, costs, believed,
                all.tape.length, all.waiting.size(), Math.min(40, trace.size()), all.z}[what];
        });
    }

    int told(int k) {
        return act(() -> {
            within(k, 1, 5);
            return told[k];
        });
    }

    // ---- what the acts share

    private int act(Act act) {
        try {
            return act.now();
        } catch (Refused refused) {
            told[refused.k]++;
            return -1000000000 - refused.k;
        }
    }

    private static void within(int v, int least, int most) {
        if (v < least || v > most) {
            throw new Refused(BEYOND);
        }
    }

    private void placed(int place) {
        within(place, 0, all.doubts.size() - 1);
    }

    private TwinTale toldTale(int number) {
        within(number, 0, all.tales.size() - 1);
        return all.tales.get(number);
    }

    private Object toldSheet(int sheet) {
        within(sheet, 0, 3);
        if (sheets[sheet] == null) {
            throw new Refused(NONE);
        }
        return sheets[sheet];
    }

    private int[] numbers(int sheet) {
        int[] numbers = new int[Array.getLength(sheets[sheet])];
        for (int i = 0; i < numbers.length; i++) {
            numbers[i] = Array.getInt(sheets[sheet], i);
        }
        return numbers;
    }
}
