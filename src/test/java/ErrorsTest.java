import java.util.Arrays;
import java.util.Random;

/**
 * Any arguments in any state: no call throws, and one that answers an ERROR changes nothing but
 * what told() tells, by one. (More calls to an object than the document promises for: this class
 * answers them all the same.)
 */
final class ErrorsTest {
    private static final int CALLS = 40;
    private static final int[] EDGES = {Integer.MIN_VALUE, Integer.MIN_VALUE + 1, -1000000001, -256, -2, -1, 0, 1, 2,
        3, 4, 5, 6, 7, 8, 9, 10, 16, 20, 32, 39, 40, 41, 49, 50, 59, 60, 61, 69, 70, 99, 100, 255, 256, 9998, 9999,
        10000, Integer.MAX_VALUE - 1, Integer.MAX_VALUE};

    public static void main(String[] args) {
        for (int run = 0; run < 600; run++) {
            manyCalls(new Random(run), run);
        }
        Due.end();
    }

    private static void manyCalls(Random random, int run) {
        BelievedByYard x = new BelievedByYard();
        for (int n = 0; n < 150; n++) {
            int which = random.nextInt(4) == 0 ? random.nextInt(12) : random.nextInt(CALLS);
            int[] v = new int[5];
            for (int i = 0; i < 5; i++) {
                v[i] = number(random);
            }
            int[] before = seen(x);
            int[] told = told(x);
            int answer = call(x, which, v);
            if (isError(answer, which, v)) {
                int other = Arrays.mismatch(before, seen(x));
                Due.is("run " + run + ", call " + n + " of " + which + ": what is seen, the first other one", other, -1);
                int[] then = told(x);
                for (int k = 0; k < 5; k++) {
                    // what seen() and told() themselves ask for is always the same
                    int more = then[k] - told[k] - asked(before, k + 1);
                    Due.is("run " + run + ", call " + n + " of " + which + ": told(" + (k + 1) + ")", more,
                        -1000000000 - answer == k + 1 ? 1 : 0);
                }
            }
        }
    }

    private static int number(Random random) {
        switch (random.nextInt(8)) {
            case 0: return EDGES[random.nextInt(EDGES.length)];
            case 1: return random.nextInt();
            case 2: return random.nextInt(100);
            default: return random.nextInt(8);
        }
    }

    /** What may answer any number is left out: text's FAULTS are above all ERRORS. */
    private static boolean isError(int answer, int which, int[] v) {
        boolean any = which == 10 || which == 24 || which == 25 || (which == 37 && v[0] == 9);
        return answer < -1000000000 && !any;
    }

    private static int call(BelievedByYard x, int which, int[] v) {
        switch (which) {
            case 0: return x.place(v[0]);
            case 1: return x.road(v[0], v[1], v[2], v[3]);
            case 2: return x.tale(v[0], v[1], v[2]);
            case 3: return x.change(v[0], v[1], v[2]);
            case 4: return x.sheet(v[0], 8 << v[1] % 4, v[2]);
            case 5: return x.put(v[0], v[1], v[2]);
            case 6: return x.road(v[0] % 7, v[1] % 7, 0, v[2]);
            case 7: return x.become(v[0], v[1]);
            case 8: return x.go(v[0], v[1]);
            case 9: return x.feed("bydm123+-*/%()!<=>|&".charAt(v[0] & 15) | (long) v[1] << 8, v[2]);
            case 10: return x.law(v[0], v[1], v[2], v[3]);
            case 11: return x.text(v[0]);
            case 12: return x.doubt(v[0], v[1]);
            case 13: return x.ofPlace(v[0], v[1]);
            case 14: return x.between(v[0], v[1], v[2]);
            case 15: return x.ofTale(v[0], v[1]);
            case 16: return x.as(v[0], v[1]);
            case 17: return x.loose(v[0]);
            case 18: return x.reach(v[0], v[1], v[2]);
            case 19: return x.cheap(v[0], v[1], v[2]);
            default: return callOn(x, which, v);
        }
    }

    private static int callOn(BelievedByYard x, int which, int[] v) {
        switch (which) {
            case 20: return x.can(v[0], v[1]);
            case 21: return x.marked(v[0], v[1]);
            case 22: return x.from(v[0], v[1], v[2]);
            case 23: return x.best(v[0]);
            case 24: return x.seed(v[0]);
            case 25: return x.voice(v[0], v[1], v[2]);
            case 26: return x.late(v[0]);
            case 27: return x.round(v[0]);
            case 28: return x.own(v[0]);
            case 29: return x.odds(v[0], v[1]);
            case 30: return x.trace(v[0]);
            case 31: return x.sheet(v[0], v[1], v[2]);
            case 32: return x.move(v[0], v[1], v[2], v[3], v[4]);
            case 33: return x.marks(v[0]);
            case 34: return x.judge(v[0]);
            case 35: return x.tell(v[0]);
            case 36: return x.check();
            case 37: return x.count(v[0]);
            case 38: return v[0] == 3 ? x.image() : x.restore();
            default: return x.told(v[0]);
        }
    }

    private static int[] told(BelievedByYard x) {
        int[] told = new int[5];
        for (int k = 0; k < 5; k++) {
            told[k] = x.told(k + 1);
        }
        return told;
    }

    /** How many of the answers of seen() are this ERROR. */
    private static int asked(int[] seen, int k) {
        int asked = 0;
        for (int i = 1; i < seen.length; i++) {
            asked += seen[i] == -1000000000 - k ? 1 : 0;
        }
        return asked;
    }

    /** All that can be seen without changing it. The first, z, may be any number. */
    private static int[] seen(BelievedByYard x) {
        int[] seen = new int[256];
        int n = 0;
        seen[n++] = x.count(9);
        for (int what = 0; what <= 8; what++) {
            seen[n++] = x.count(what);
        }
        for (int i = 0; i < 7; i++) {
            for (int what = 0; what <= 6; what++) {
                seen[n++] = x.ofTale(i, what);
            }
            seen[n++] = x.ofPlace(i, 0);
            for (int k = 0; k < i; k++) {
                seen[n++] = x.between(i, k, 0);
                seen[n++] = x.between(i, k, 1);
            }
        }
        for (int i = 0; i < 4; i++) {
            seen[n++] = x.judge(i);
            seen[n++] = x.trace(i);
            seen[n++] = x.from(i, 0, 0);
        }
        seen[n++] = x.law(1, 5, 6, 7);
        return seen;
    }
}
