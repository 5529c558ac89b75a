import java.util.Random;

/**
 * Any arguments in any state: no call throws, and those that answer ERRORS change nothing but what
 * told() tells: an object that is spared them answers all other calls alike and is like it at last.
 */
final class ErrorsTest {
    private static final int CALLS = 40;
    private static final int LAW = 10;
    private static final int SEED = 24;
    private static final int VOICE = 25;
    private static final int COUNT = 37;
    private static final int TOLD = 39;
    private static final String SIGNS = "bydm123+-*/%()!<=>|&";
    private static final int[] EDGES = {Integer.MIN_VALUE, Integer.MIN_VALUE + 1, -1000000001, -256, -2, -1, 0, 1, 2,
        3, 4, 5, 6, 7, 8, 9, 10, 16, 20, 32, 39, 40, 41, 49, 50, 59, 60, 61, 69, 70, 99, 100, 255, 256, 9998, 9999,
        10000, Integer.MAX_VALUE - 1, Integer.MAX_VALUE};

    public static void main(String[] args) {
        for (int run = 0; run < 3000; run++) {
            manyCalls(new Random(run), run);
        }
        Due.end();
    }

    private static void manyCalls(Random random, int run) {
        BelievedByYard x = new BelievedByYard();
        BelievedByYard spared = new BelievedByYard();
        int[] refused = new int[6];
        for (int n = 0; n < 140; n++) {
            int which = random.nextInt(4) == 0 ? random.nextInt(12) : random.nextInt(CALLS);
            int[] v = new int[5];
            for (int i = 0; i < 5; i++) {
                v[i] = number(random);
            }
            int tales = which == VOICE ? spared.count(1) : 0;
            String name = "run " + run + ", call " + n + " of " + which;
            int answer = call(x, which, v);
            if (isError(answer, which, v, tales)) {
                boolean is = answer >= Due.KIND && answer <= Due.BEYOND;
                Due.isTrue(name + " answers one of the ERRORS: " + answer, is);
                refused[is ? Due.LOW - answer : 0]++;
            } else if (which == TOLD) {
                Due.is(name, answer, refused[v[0]]);
            } else {
                Due.is(name + ": the one that is spared ERRORS", call(spared, which, v), answer);
            }
        }
        int[] told = Seen.told(x);
        for (int k = 1; k <= 5; k++) {
            Due.is("run " + run + ": told(" + k + ")", told[k - 1], refused[k]);
        }
        Due.isTrue("run " + run + ": it is like the one that is spared", Seen.of(x).equals(Seen.of(spared)));
    }

    private static int number(Random random) {
        switch (random.nextInt(8)) {
            case 0: return EDGES[random.nextInt(EDGES.length)];
            case 1: return random.nextInt();
            case 2: return random.nextInt(100);
            default: return random.nextInt(8);
        }
    }

    /** Some acts may answer any number: then their arguments tell whether it is an ERROR. */
    private static boolean isError(int answer, int which, int[] v, int tales) {
        switch (which) {
            case LAW: return v[0] < 0 || v[0] > 1;
            case SEED: return false;
            case VOICE: return v[0] < 0 || v[0] >= tales || v[1] < 0 || v[1] > 3;
            case COUNT: return v[0] != 9 && answer < Due.LOW;
            default: return answer < Due.LOW;
        }
    }

    private static int call(BelievedByYard x, int which, int[] v) {
        switch (which) {
            case 0: return x.place(v[0]);
            case 1: return x.road(v[0], v[1], v[2], v[3]);
            case 2: return x.tale(v[0], v[1], v[2]);
            case 3: return x.change(v[0], v[1], v[2]);
            case 4: return x.sheet(v[0], 8 << v[1] % 4, v[2]);
            case 5: return x.put(v[0], v[1], v[2]);
            case 6: return x.road(v[0] % 7, v[1] % 7, 0, v[2]);
            case 7: return x.become(v[0], v[1]);
            case 8: return x.go(v[0], v[1]);
            case 9: return x.feed(SIGNS.charAt(Math.floorMod(v[0], SIGNS.length())) | (long) v[1] << 8, v[2]);
            case 10: return x.law(v[0], v[1], v[2], v[3]);
            case 11: return x.text(v[0]);
            case 12: return x.doubt(v[0], v[1]);
            case 13: return x.ofPlace(v[0], v[1]);
            case 14: return x.between(v[0], v[1], v[2]);
            case 15: return x.ofTale(v[0], v[1]);
            case 16: return x.as(v[0], v[1]);
            case 17: return x.loose(v[0]);
            case 18: return x.reach(v[0], v[1], v[2]);
            case 19: return x.cheap(v[0], v[1], v[2]);
            default: return callOn(x, which, v);
        }
    }

    private static int callOn(BelievedByYard x, int which, int[] v) {
        switch (which) {
            case 20: return x.can(v[0], v[1]);
            case 21: return x.marked(v[0], v[1]);
            case 22: return x.from(v[0], v[1], v[2]);
            case 23: return x.best(v[0]);
            case 24: return x.seed(v[0]);
            case 25: return x.voice(v[0], v[1], v[2]);
            case 26: return x.late(v[0]);
            case 27: return x.round(v[0]);
            case 28: return x.own(v[0]);
            case 29: return x.odds(v[0], v[1]);
            case 30: return x.trace(v[0]);
            case 31: return x.sheet(v[0], v[1], v[2]);
            case 32: return x.move(v[0], v[1], v[2], v[3], v[4]);
            case 33: return x.marks(v[0]);
            case 34: return x.judge(v[0]);
            case 35: return x.tell(v[0]);
            case 36: return x.check();
            case 37: return x.count(v[0]);
            case 38: return v[0] == 3 ? x.image() : x.restore();
            default: return x.told(v[0]);
        }
    }
}
