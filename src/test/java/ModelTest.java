import java.util.ArrayList;
import java.util.List;
import java.util.Random;
import java.util.TreeSet;

/**
 * Promises 16 to 26 on any World, against the document's words worked out the slow way: all ROWS
 * are listed, all ways are walked. The two TEXTS are told as ones that this test works out itself.
 */
final class ModelTest {
    private static final String[] GROWING = {"", "b*3-y+p", "(b+1)%5+2", "b/2+y*p", "7", "b+(y%2=0)*y"};
    private static final int KIND = 0;
    private static final int M = 1;
    private static final int MARKS = 2;
    private static final int YARDS = 3;
    private static final int AT = 4;
    private static final String[] SOUNDING = {"", "b%3", "d<b|m>6", "b>99&d>2", "0"};

    private final Random random;
    private final int[] doubts = new int[7];
    private final int[][] roads = new int[7][7];
    private final int[][] tolls = new int[7][7];
    private final int[][] parts = new int[7][];
    private int places;
    private int tales;
    private int growing;
    private int sounding;
    private BelievedByYard x;

    private ModelTest(long seed) {
        random = new Random(seed);
    }

    public static void main(String[] args) {
        for (int run = 0; run < 400; run++) {
            ModelTest test = new ModelTest(run);
            test.makeWorld();
            test.askAll(run);
        }
        Due.end();
    }

    private void makeWorld() {
        places = 1 + random.nextInt(7);
        int most = random.nextInt(3) == 0 ? 100 : 30;
        for (int i = 0; i < places; i++) {
            doubts[i] = random.nextInt(most);
        }
        int dense = 1 + random.nextInt(4);
        int longest = random.nextBoolean() ? 99 : 6;
        for (int i = 0; i < places; i++) {
            for (int k = 0; k < i; k++) {
                roads[i][k] = random.nextInt(4) < dense ? 1 + random.nextInt(longest) : 0;
                roads[k][i] = roads[i][k];
                tolls[i][k] = random.nextInt(10) * random.nextInt(2);
                tolls[k][i] = tolls[i][k];
            }
        }
        tales = random.nextInt(8);
        for (int i = 0; i < tales; i++) {
            parts[i] = new int[] {random.nextInt(7), random.nextInt(10), random.nextInt(256),
                random.nextInt(3) * random.nextInt(60), random.nextInt(places)};
        }
        growing = random.nextInt(GROWING.length);
        sounding = random.nextInt(SOUNDING.length);
    }

    /** An object is promised for 512 calls: so there is a new one for each TALE that is asked for. */
    private void build() {
        x = new BelievedByYard();
        for (int i = 0; i < places; i++) {
            x.place(doubts[i]);
            for (int k = 0; k < i; k++) {
                if (roads[i][k] > 0) {
                    x.road(i, k, 0, roads[i][k]);
                }
                x.road(k, i, 1, tolls[i][k]);
            }
        }
        for (int i = 0; i < tales; i++) {
            x.tale(parts[i][KIND] * 10 + parts[i][M], parts[i][MARKS], parts[i][AT]);
            x.change(i, 1, parts[i][YARDS]);
        }
        if (growing > 0) {
            Due.is("text(0)", Due.text(x, 0, GROWING[growing]), 1);
        }
        if (sounding > 0) {
            Due.is("text(1)", Due.text(x, 1, SOUNDING[sounding]), 1);
        }
    }

    // the document's rules

    private int given(int b, int y, int p) {
        switch (growing) {
            case 1: return b * 3 - y + p;
            case 2: return (b + 1) % 5 + 2;
            case 3: return b / 2 + y * p;
            case 4: return 7;
            case 5: return b + (y % 2 == 0 ? y : 0);
            default: return b + y;
        }
    }

    private boolean sounds(int b, int d, int m) {
        switch (sounding) {
            case 1: return b % 3 > 0;
            case 2: return d < b || m > 6;
            case 3: return b > 99 && d > 2;
            case 4: return false;
            default: return true;
        }
    }

    private int grown(int kind, int b, int y, int p) {
        int text = given(b, y, p) & 255;
        switch (kind) {
            case 1: return text | 1;
            case 2: return text ^ 1 << y % 8;
            case 3: return b;
            case 4: return text | 128 | 1;
            case 5: return 255 - (text ^ 1 << y % 8);
            case 6: return b - b % 2;
            default: return text;
        }
    }

    private static int walks(int kind, int m, int y) {
        int[] counted = {y, y < 2 ? 1 : y / 2, y * 3, y, y < 2 ? 2 : y / 2 * 2, y * 3 + m, y > m ? y - m : 0};
        return counted[kind];
    }

    private boolean believed(int tale, int marks, int yards, int place) {
        int d = doubts[place];
        return yards >= d && sounds(marks, d, parts[tale][M]);
    }

    private boolean believedThere(int tale, int place) {
        return believed(tale, parts[tale][MARKS], parts[tale][YARDS], place);
    }

    /** All ROWS of n STEPS, the first by PLACES first: the PLACES, then MARKS at each, then YARDS. */
    private List<int[][]> rows(int tale, int n) {
        List<int[][]> rows = new ArrayList<>();
        int[] at = new int[n + 1];
        at[0] = parts[tale][AT];
        list(tale, at, 1, rows);
        return rows;
    }

    private void list(int tale, int[] at, int length, List<int[][]> rows) {
        if (length == at.length) {
            rows.add(walked(tale, at));
            return;
        }
        for (int i = 0; i < places; i++) {
            at[length] = i;
            if (roads[at[length - 1]][i] > 0) {
                list(tale, at, length + 1, rows);
            }
        }
    }

    private int[][] walked(int tale, int[] at) {
        int[] marks = new int[at.length];
        int[] yards = new int[at.length];
        int kind = parts[tale][KIND];
        marks[0] = parts[tale][MARKS];
        yards[0] = parts[tale][YARDS];
        for (int i = 1; i < at.length; i++) {
            int y = roads[at[i - 1]][at[i]];
            marks[i] = grown(kind, marks[i - 1], y, at[i - 1]);
            yards[i] = Math.min(9999, yards[i - 1] + walks(kind, parts[tale][M], y));
        }
        return new int[][] {at.clone(), marks, yards};
    }

    // what is asked

    private void askAll(int run) {
        for (int t = 0; t < tales; t++) {
            build();
            askRows("run " + run + ", TALE " + t + ": ", t);
            askFrom("run " + run + ", TALE " + t + ": ", t);
            askCheap("run " + run + ", TALE " + t + ": ", t);
            askCan("run " + run + ", TALE " + t + ": ", t);
            askOne("run " + run + ", TALE " + t + ": ", t);
        }
        build();
        askBest("run " + run + ": ");
        askGo("run " + run + ": ");
    }

    private void askRows(String who, int t) {
        int[] reached = new int[places];
        int round = Due.NONE;
        for (int n = 0; n <= 5; n++) {
            TreeSet<Integer> marks = new TreeSet<>();
            for (int[][] row : rows(t, n)) {
                int end = row[0][n];
                marks.add(row[1][n]);
                if (n > 0 && round < 0 && end == row[0][0] && row[1][n] == row[1][0]) {
                    round = n;
                }
                if (reached[end] == 0 && believed(t, row[1][n], row[2][n], end)) {
                    reached[end] = 1;
                    Due.is(who + "reach(" + end + ", 0)", x.reach(t, end, 0), n);
                    Due.is(who + "reach(" + end + ", 1)", x.reach(t, end, 1), row[0][Math.min(1, n)]);
                    Due.is(who + "reach(" + end + ", 2)", x.reach(t, end, 2), row[1][n]);
                }
            }
            if (n <= 4) {
                Due.is(who + "marked(" + n + ")", x.marked(t, n), marks.size());
            }
        }
        Due.is(who + "round()", x.round(t), round);
        for (int p = 0; p < places; p++) {
            if (reached[p] == 0) {
                Due.is(who + "reach(" + p + ", 0)", x.reach(t, p, 0), Due.NONE);
            }
        }
    }

    private void askFrom(String who, int t) {
        for (int n = 0; n <= 4; n++) {
            List<int[][]> rows = rows(t, n);
            if (rows.isEmpty()) {
                continue;
            }
            int[] told = rows.get(random.nextInt(rows.size()))[1].clone();
            if (random.nextInt(5) == 0) {
                told[random.nextInt(n + 1)] ^= 1 << random.nextInt(8);
            }
            int many = 0;
            int least = 9;
            for (int[][] row : rows) {
                boolean so = true;
                for (int i = 0; i <= n; i++) {
                    so &= row[1][i] == told[i];
                }
                many += so ? 1 : 0;
                least = so ? Math.min(least, row[0][n]) : least;
            }
            x.sheet(2, 16, n + 1);
            for (int i = 0; i <= n; i++) {
                x.put(2, i, told[i]);
            }
            Due.is(who + "from(.., 0) by " + (n + 1), x.from(2, t, 0), many);
            Due.is(who + "from(.., 1) by " + (n + 1), x.from(2, t, 1), many > 0 ? least : Due.NONE);
        }
    }

    private void askCheap(String who, int t) {
        int[][] best = new int[places][];
        ways(parts[t][AT], 0, 0, 0, best);
        for (int p = 0; p < places; p++) {
            Due.is(who + "cheap(" + p + ", 0)", x.cheap(t, p, 0), best[p] == null ? Due.NONE : best[p][0]);
            Due.is(who + "cheap(" + p + ", 1)", x.cheap(t, p, 1), best[p] == null ? Due.NONE : best[p][1]);
        }
    }

    private void ways(int at, int been, int toll, int yards, int[][] best) {
        int[] b = best[at];
        if (b == null || toll < b[0] || (toll == b[0] && yards < b[1])) {
            best[at] = new int[] {toll, yards};
        }
        for (int i = 0; i < places; i++) {
            if ((been >> i & 1) == 0 && roads[at][i] > 0) {
                ways(i, been | 1 << at, toll + tolls[at][i], yards + roads[at][i], best);
            }
        }
    }

    private void askCan(String who, int t) {
        boolean[] at = new boolean[7];
        at[parts[t][AT]] = true;
        for (int n = 0; n <= 60; n++) {
            int set = 0;
            boolean[] then = new boolean[7];
            for (int i = 0; i < places; i++) {
                set += at[i] ? 1 << i : 0;
                for (int k = 0; k < places; k++) {
                    then[k] |= at[i] && roads[i][k] > 0;
                }
            }
            if (n < 6 || n > 57) {
                Due.is(who + "can(" + n + ")", x.can(t, n), set);
            }
            at = then;
        }
    }

    private void askOne(String who, int t) {
        int good = 0;
        for (int p = 0; p < places; p++) {
            good += believedThere(t, p) ? 1 : 0;
        }
        int below = 1;
        while (good * below % places != 0 || (good == 0 && below > 1)) {
            below++;
        }
        Due.is(who + "odds(0)", x.odds(t, 0), good * below / places);
        Due.is(who + "odds(1)", x.odds(t, 1), below);
        int own = 0;
        for (int i = 0; i < tales; i++) {
            int bits = 0;
            for (int k = 0; k < 8; k++) {
                bits += (parts[i][MARKS] >> k & 1) != (parts[t][MARKS] >> k & 1) ? 1 : 0;
            }
            own += i != t && bits < 3 ? 1 << i : 0;
        }
        Due.is(who + "own()", x.own(t), own);
        int there = parts[t][AT];
        int late = doubts[there] - parts[t][YARDS];
        Due.is(who + "late()", x.late(t), late > 0 ? late : 0);
        Due.is(who + "ofTale(6)", x.ofTale(t, 6), believedThere(t, there) ? 1 : 0);
    }

    private void askBest(String who) {
        int best = -1;
        int most = -1;
        int inAll = 0;
        for (int p = 0; p < places; p++) {
            int would = 0;
            int fame = 0;
            int set = 0;
            for (int t = 0; t < tales; t++) {
                boolean there = parts[t][AT] == p;
                would += believedThere(t, p) ? 1 : 0;
                fame += there && believedThere(t, p) ? 1 : 0;
                set += there ? 1 << t : 0;
            }
            Due.is(who + "ofPlace(" + p + ", 1)", x.ofPlace(p, 1), set);
            Due.is(who + "ofPlace(" + p + ", 2)", x.ofPlace(p, 2), fame);
            inAll += fame;
            if (would > most) {
                most = would;
                best = p;
            }
        }
        Due.is(who + "best(0)", x.best(0), best);
        Due.is(who + "best(1)", x.best(1), most);
        Due.is(who + "count(5)", x.count(5), inAll);
    }

    private void askGo(String who) {
        for (int t = 0; t < tales; t++) {
            int at = parts[t][AT];
            int p = random.nextInt(places);
            int y = roads[at][p];
            int marks = grown(parts[t][KIND], parts[t][MARKS], y, at);
            int yards = parts[t][YARDS] + walks(parts[t][KIND], parts[t][M], y);
            int costs = tolls[at][p];
            if (y == 0) {
                Due.is(who + "go(" + t + ", " + p + ")", x.go(t, p), Due.STATE);
                continue;
            }
            int due = believed(t, marks, yards, p) ? 1 : 0;
            Due.is(who + "go(" + t + ", " + p + ")", x.go(t, p), due);
            Due.is(who + "its MARKS", x.ofTale(t, 2), marks);
            Due.is(who + "its YARDS", x.ofTale(t, 3), yards);
            Due.is(who + "its PLACE", x.ofTale(t, 4), p);
            Due.is(who + "its COSTS", x.ofTale(t, 5), costs);
        }
    }
}
