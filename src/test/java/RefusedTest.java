import java.util.Arrays;
import java.util.List;
import java.util.function.Supplier;
import java.util.function.ToIntFunction;

/**
 * "Each act tells its ERRORS in the order in which they are asked; one that answers an ERROR changes
 * nothing but what told() tells." Every act with every ERROR that it knows, and with two of them at
 * once; then the object is to be like another one that was not asked.
 */
final class RefusedTest {
    private static final int MIN = Integer.MIN_VALUE;
    private static final int MAX = Integer.MAX_VALUE;
    private static Supplier<BelievedByYard> made;
    private static List<Integer> like;

    public static void main(String[] args) {
        Sentence.ofTerms("Each act tells its ERRORS in the order in which they are asked; "
            + "one that answers an ERROR changes nothing but what told() tells.");
        Due.about("a new object");
        in(BelievedByYard::new);
        onNothing();
        Due.about("four PLACES");
        in(RefusedTest::four);
        placesAndRoads();
        talesAndTexts();
        thought();
        thoughtOfNone();
        voicesAndTold();
        sheets();
        moves();
        Due.about("all full");
        in(RefusedTest::full);
        onFull();
        Due.about("STEP 9999");
        in(Worlds::atLastStep);
        onLastStep();
        Due.about("STEP 9960");
        in(RefusedTest::nearLastStep);
        nearTheLast();
        Due.end();
    }

    private static void in(Supplier<BelievedByYard> world) {
        made = world;
        like = Seen.of(world.get());
    }

    private static void refused(int error, String call, ToIntFunction<BelievedByYard> act) {
        BelievedByYard x = made.get();
        int[] due = Seen.told(x);
        due[Due.LOW - error - 1]++;
        Due.is(call, act.applyAsInt(x), error);
        Due.isTrue(call + ": told() tells that alone", Arrays.equals(Seen.told(x), due));
        Due.isTrue(call + ": nothing else is changed", Seen.of(x).equals(like));
    }

    private static void beyond(String call, ToIntFunction<BelievedByYard> act) {
        refused(Due.BEYOND, call, act);
    }

    private static void none(String call, ToIntFunction<BelievedByYard> act) {
        refused(Due.NONE, call, act);
    }

    private static void state(String call, ToIntFunction<BelievedByYard> act) {
        refused(Due.STATE, call, act);
    }

    private static void full(String call, ToIntFunction<BelievedByYard> act) {
        refused(Due.FULL, call, act);
    }

    private static void kind(String call, ToIntFunction<BelievedByYard> act) {
        refused(Due.KIND, call, act);
    }

    // the worlds

    /** Four PLACES, PLACE 3 without a ROAD; three TALES; SHEETS of 8, 16, 32 bits, one missing; an IMAGE. */
    private static BelievedByYard four() {
        BelievedByYard x = Due.withPlaces(3, 14, 25, 36);
        x.road(0, 1, 0, 7);
        x.road(1, 2, 0, 8);
        x.road(0, 1, 1, 5);
        x.tale(12, 40, 0);
        x.tale(53, 9, 1);
        x.tell(4);
        Due.feed(x, "b+");
        x.image();
        x.text(0);
        x.check();
        x.road(2, 3, 1, 6);
        x.tale(4, 21, 2);
        x.change(0, 1, 30);
        x.change(1, 3, 77);
        x.go(0, 1);
        Due.text(x, 0, "b*3+y");
        Due.text(x, 1, "b<199");
        Due.feed(x, "y-1");
        x.tell(0);
        x.tell(14);
        x.tell(9);
        Worlds.sheet(x, 0, 8, 11, 12, 13);
        Worlds.sheet(x, 1, 16, 21, 22, 23, 24, 25);
        Worlds.sheet(x, 2, 32, 31, 32);
        x.voice(1, 3, 8);
        x.seed(777);
        x.place(-5);
        return x;
    }

    /** Seven PLACES and TALES, 48 bytes on THE TAPE, 20 numbers that wait. */
    private static BelievedByYard full() {
        BelievedByYard x = Worlds.net(9);
        for (int i = 0; i < 7; i++) {
            x.tale(i * 11, 30 * i, i);
        }
        x.feed(0x622b622b622b622bL, 8);
        for (int i = 0; i < 5; i++) {
            x.feed(0x2b622b622b622b62L, 8);
        }
        for (int i = 0; i < 20; i++) {
            x.tell(0);
        }
        Due.is("count(6)", x.count(6), 48);
        Due.is("count(7)", x.count(7), 20);
        return x;
    }

    private static BelievedByYard nearLastStep() {
        BelievedByYard x = Worlds.atStep(9960);
        x.place(0);
        x.tale(0, 0, 0);
        return x;
    }

    // what is refused

    private static void onNothing() {
        beyond("doubt(0, 0)", x -> x.doubt(0, 0));
        beyond("ofPlace(0, 0)", x -> x.ofPlace(0, 0));
        beyond("road(0, 1, 0, 5)", x -> x.road(0, 1, 0, 5));
        beyond("between(0, 1, 0)", x -> x.between(0, 1, 0));
        beyond("tale(0, 0, 0)", x -> x.tale(0, 0, 0));
        beyond("ofTale(0, 0)", x -> x.ofTale(0, 0));
        beyond("change(0, 0, 0)", x -> x.change(0, 0, 0));
        beyond("become(0, 0)", x -> x.become(0, 0));
        beyond("as(0, 0)", x -> x.as(0, 0));
        beyond("go(0, 0)", x -> x.go(0, 0));
        beyond("reach(0, 0, 0)", x -> x.reach(0, 0, 0));
        beyond("cheap(0, 0, 0)", x -> x.cheap(0, 0, 0));
        beyond("can(0, 0)", x -> x.can(0, 0));
        beyond("marked(0, 0)", x -> x.marked(0, 0));
        beyond("from(0, 0, 0): ahead of NONE", x -> x.from(0, 0, 0));
        none("best(0)", x -> x.best(0));
        none("best(1)", x -> x.best(1));
        beyond("best(2): ahead of NONE", x -> x.best(2));
        beyond("best(-1): ahead of NONE", x -> x.best(-1));
        beyond("late(0)", x -> x.late(0));
        beyond("round(0)", x -> x.round(0));
        beyond("own(0)", x -> x.own(0));
        beyond("odds(0, 0)", x -> x.odds(0, 0));
        beyond("voice(0, 0, 0)", x -> x.voice(0, 0, 0));
        none("trace(0)", x -> x.trace(0));
        for (int i = 0; i < 4; i++) {
            int sheet = i;
            none("put(" + i + ", 0, 0)", x -> x.put(sheet, 0, 0));
            none("move(" + i + ", 0, 0, 0, 0)", x -> x.move(sheet, 0, 0, 0, 0));
            none("marks(" + i + ")", x -> x.marks(sheet));
            none("judge(" + i + ")", x -> x.judge(sheet));
        }
        none("restore()", x -> x.restore());
    }

    private static void placesAndRoads() {
        for (int v : new int[] {-1, 100, MIN, MAX}) {
            beyond("place(" + v + ")", x -> x.place(v));
            beyond("doubt(0, " + v + ")", x -> x.doubt(0, v));
            beyond("road(0, 1, 0, " + v + ")", x -> x.road(0, 1, 0, v));
        }
        for (int p : new int[] {-1, 4, 7, MIN, MAX}) {
            beyond("doubt(" + p + ", 5)", x -> x.doubt(p, 5));
            beyond("ofPlace(" + p + ", 0)", x -> x.ofPlace(p, 0));
            beyond("road(" + p + ", 1, 0, 5)", x -> x.road(p, 1, 0, 5));
            beyond("road(1, " + p + ", 0, 5)", x -> x.road(1, p, 0, 5));
            beyond("road(" + p + ", " + p + ", 1, 5)", x -> x.road(p, p, 1, 5));
            beyond("between(" + p + ", 1, 0)", x -> x.between(p, 1, 0));
            beyond("between(1, " + p + ", 0)", x -> x.between(1, p, 0));
        }
        for (int p = 0; p < 4; p++) {
            int same = p;
            beyond("road(" + p + ", " + p + ", 0, 5)", x -> x.road(same, same, 0, 5));
            beyond("between(" + p + ", " + p + ", 1)", x -> x.between(same, same, 1));
        }
        for (int v : new int[] {-1, 10, MIN, MAX}) {
            beyond("road(0, 1, 1, " + v + ")", x -> x.road(0, 1, 1, v));
        }
        for (int what : new int[] {-1, 2, MIN, MAX}) {
            beyond("road(0, 1, " + what + ", 5)", x -> x.road(0, 1, what, 5));
            beyond("between(0, 1, " + what + ")", x -> x.between(0, 1, what));
        }
        for (int what : new int[] {-1, 3, MIN, MAX}) {
            beyond("ofPlace(0, " + what + ")", x -> x.ofPlace(0, what));
        }
    }

    private static void talesAndTexts() {
        for (int v : new int[] {-1, 70, MIN, MAX}) {
            beyond("tale(" + v + ", 0, 0)", x -> x.tale(v, 0, 0));
            beyond("become(0, " + v + ")", x -> x.become(0, v));
        }
        for (int v : new int[] {-1, 256, MIN, MAX}) {
            beyond("tale(0, " + v + ", 0)", x -> x.tale(0, v, 0));
            beyond("change(0, 0, " + v + ")", x -> x.change(0, 0, v));
        }
        for (int v : new int[] {-1, 10000, MIN, MAX}) {
            beyond("change(0, 1, " + v + ")", x -> x.change(0, 1, v));
            beyond("change(0, 3, " + v + ")", x -> x.change(0, 3, v));
        }
        for (int v : new int[] {-1, 4, 7, MIN, MAX}) {
            beyond("tale(0, 0, " + v + ")", x -> x.tale(0, 0, v));
            beyond("change(0, 2, " + v + ")", x -> x.change(0, 2, v));
            beyond("go(0, " + v + "): ahead of STATE", x -> x.go(0, v));
        }
        for (int t : new int[] {-1, 3, 7, MIN, MAX}) {
            beyond("ofTale(" + t + ", 0)", x -> x.ofTale(t, 0));
            beyond("change(" + t + ", 0, 5)", x -> x.change(t, 0, 5));
            beyond("become(" + t + ", 5)", x -> x.become(t, 5));
            beyond("as(" + t + ", 0)", x -> x.as(t, 0));
            beyond("go(" + t + ", 1)", x -> x.go(t, 1));
            beyond("voice(" + t + ", 0, 5)", x -> x.voice(t, 0, 5));
        }
        for (int v : new int[] {-1, 7, MIN, MAX}) {
            beyond("ofTale(0, " + v + ")", x -> x.ofTale(0, v));
            beyond("as(0, " + v + "): ahead of KIND", x -> x.as(0, v));
        }
        for (int what : new int[] {-1, 4, MIN, MAX}) {
            beyond("change(0, " + what + ", 0)", x -> x.change(0, what, 0));
            beyond("voice(0, " + what + ", 5)", x -> x.voice(0, what, 5));
        }
        kind("as(0, 2)", x -> x.as(0, 2));
        kind("as(0, 4)", x -> x.as(0, 4));
        kind("as(1, 1)", x -> x.as(1, 1));
        state("go(0, 3)", x -> x.go(0, 3));
        state("go(0, 1)", x -> x.go(0, 1));
        for (int n : new int[] {-1, 0, 61, MIN, MAX}) {
            beyond("loose(" + n + ")", x -> x.loose(n));
        }
        for (int n : new int[] {-1, 0, 9, MIN, MAX}) {
            beyond("feed(98, " + n + ")", x -> x.feed(98, n));
        }
        for (int use : new int[] {-1, 2, MIN, MAX}) {
            beyond("text(" + use + ")", x -> x.text(use));
            beyond("law(" + use + ", 1, 1, 1)", x -> x.law(use, 1, 1, 1));
        }
    }

    private static void thought() {
        for (int t : new int[] {-1, 3, 7, MIN, MAX}) {
            beyond("reach(" + t + ", 0, 0)", x -> x.reach(t, 0, 0));
            beyond("cheap(" + t + ", 0, 0)", x -> x.cheap(t, 0, 0));
            beyond("can(" + t + ", 0)", x -> x.can(t, 0));
            beyond("marked(" + t + ", 0)", x -> x.marked(t, 0));
            beyond("from(0, " + t + ", 0)", x -> x.from(0, t, 0));
            beyond("late(" + t + ")", x -> x.late(t));
            beyond("round(" + t + ")", x -> x.round(t));
            beyond("own(" + t + ")", x -> x.own(t));
            beyond("odds(" + t + ", 0)", x -> x.odds(t, 0));
        }
        for (int p : new int[] {-1, 4, 7, MIN, MAX}) {
            beyond("reach(0, " + p + ", 0)", x -> x.reach(0, p, 0));
            beyond("cheap(0, " + p + ", 0)", x -> x.cheap(0, p, 0));
        }
        for (int what : new int[] {-1, 3, MIN, MAX}) {
            beyond("reach(0, 0, " + what + ")", x -> x.reach(0, 0, what));
            beyond("reach(0, 3, " + what + "): ahead of NONE", x -> x.reach(0, 3, what));
        }
        for (int what : new int[] {-1, 2, MIN, MAX}) {
            beyond("cheap(0, 0, " + what + ")", x -> x.cheap(0, 0, what));
            beyond("cheap(0, 3, " + what + "): ahead of NONE", x -> x.cheap(0, 3, what));
            beyond("from(1, 0, " + what + ")", x -> x.from(1, 0, what));
            beyond("from(3, 0, " + what + "): ahead of NONE", x -> x.from(3, 0, what));
            beyond("best(" + what + ")", x -> x.best(what));
            beyond("odds(0, " + what + ")", x -> x.odds(0, what));
        }
        for (int n : new int[] {-1, 61, MIN, MAX}) {
            beyond("can(0, " + n + ")", x -> x.can(0, n));
        }
        for (int n : new int[] {-1, 5, MIN, MAX}) {
            beyond("marked(0, " + n + ")", x -> x.marked(0, n));
        }
        for (int sheet : new int[] {-1, 4, MIN, MAX}) {
            beyond("from(" + sheet + ", 0, 0)", x -> x.from(sheet, 0, 0));
        }
    }

    private static void thoughtOfNone() {
        for (int what = 0; what <= 2; what++) {
            int w = what;
            none("reach(0, 3, " + what + ")", x -> x.reach(0, 3, w));
        }
        for (int what = 0; what <= 1; what++) {
            int w = what;
            none("cheap(0, 3, " + what + ")", x -> x.cheap(0, 3, w));
            none("from(3, 0, " + what + ") of a missing SHEET", x -> x.from(3, 0, w));
        }
        none("from(1, 0, 1) of other MARKS", x -> x.from(1, 0, 1));
        beyond("from(3, 3, 0): ahead of NONE", x -> x.from(3, 3, 0));
        none("round(0)", x -> x.round(0));
    }

    private static void voicesAndTold() {
        // BODIES of the latest voice(): ELEPHANT tells
        for (int i : new int[] {-1, 7, 39, 40, MIN, MAX}) {
            none("trace(" + i + ")", x -> x.trace(i));
        }
        for (int what : new int[] {-1, 10, MIN, MAX}) {
            beyond("count(" + what + ")", x -> x.count(what));
        }
        for (int k : new int[] {-1, 0, 6, MIN, MAX}) {
            beyond("told(" + k + ")", x -> x.told(k));
        }
    }

    private static void sheets() {
        for (int s : new int[] {-1, 4, MIN, MAX}) {
            beyond("sheet(" + s + ", 8, 1)", x -> x.sheet(s, 8, 1));
            beyond("sheet(" + s + ", 0, 1)", x -> x.sheet(s, 0, 1));
            beyond("sheet(" + s + ", 8, -1): ahead of STATE", x -> x.sheet(s, 8, -1));
            beyond("put(" + s + ", 0, 1)", x -> x.put(s, 0, 1));
            beyond("marks(" + s + ")", x -> x.marks(s));
            beyond("judge(" + s + ")", x -> x.judge(s));
        }
        for (int bits : new int[] {-8, -1, 1, 9, 24, 33, 64, MIN, MAX}) {
            beyond("sheet(1, " + bits + ", 3)", x -> x.sheet(1, bits, 3));
            beyond("sheet(1, " + bits + ", -1): ahead of STATE", x -> x.sheet(1, bits, -1));
        }
        for (int bits : new int[] {8, 16, 32}) {
            state("sheet(1, " + bits + ", -1)", x -> x.sheet(1, bits, -1));
            state("sheet(3, " + bits + ", MIN)", x -> x.sheet(3, bits, MIN));
            beyond("sheet(1, " + bits + ", 41)", x -> x.sheet(1, bits, 41));
            beyond("sheet(3, " + bits + ", MAX)", x -> x.sheet(3, bits, MAX));
        }
        none("put(3, 0, 1)", x -> x.put(3, 0, 1));
        none("put(3, -1, 1): ahead of BEYOND", x -> x.put(3, -1, 1));
        none("put(3, 40, 1): ahead of BEYOND", x -> x.put(3, 40, 1));
        for (int i : new int[] {-1, 3, 40, MIN, MAX}) {
            beyond("put(0, " + i + ", 1)", x -> x.put(0, i, 1));
        }
        none("marks(3)", x -> x.marks(3));
        none("judge(3)", x -> x.judge(3));
    }

    private static void moves() {
        for (int s : new int[] {-1, 4, MIN, MAX}) {
            beyond("move(" + s + ", 0, 1, 0, 1)", x -> x.move(s, 0, 1, 0, 1));
            beyond("move(1, 0, " + s + ", 0, 1)", x -> x.move(1, 0, s, 0, 1));
            beyond("move(" + s + ", 0, 3, 0, 1): ahead of NONE", x -> x.move(s, 0, 3, 0, 1));
            beyond("move(3, 0, " + s + ", 0, 1): ahead of NONE", x -> x.move(3, 0, s, 0, 1));
        }
        none("move(3, 0, 1, 0, 1)", x -> x.move(3, 0, 1, 0, 1));
        none("move(1, 0, 3, 0, 1)", x -> x.move(1, 0, 3, 0, 1));
        none("move(3, 0, 3, 0, 0)", x -> x.move(3, 0, 3, 0, 0));
        none("move(3, -1, 1, 0, -1): ahead of BEYOND", x -> x.move(3, -1, 1, 0, -1));
        kind("move(0, 0, 1, 0, 1)", x -> x.move(0, 0, 1, 0, 1));
        kind("move(1, 0, 2, 0, 1)", x -> x.move(1, 0, 2, 0, 1));
        kind("move(2, 0, 0, 0, 1)", x -> x.move(2, 0, 0, 0, 1));
        kind("move(0, 0, 1, 0, 0) of none", x -> x.move(0, 0, 1, 0, 0));
        kind("move(0, -1, 1, -1, -1): ahead of BEYOND", x -> x.move(0, -1, 1, -1, -1));
        kind("move(0, 40, 1, 40, 40): ahead of BEYOND", x -> x.move(0, 40, 1, 40, 40));
        int[][] rows = {{-1, 0, 1}, {0, -1, 1}, {0, 0, -1}, {0, 0, 6}, {5, 0, 1}, {0, 5, 1}, {3, 0, 3}, {0, 3, 3},
            {1, 0, 5}, {0, 1, 5}, {6, 0, 0}, {0, 6, 0}, {6, 6, -1}, {MIN, 0, 1}, {0, MIN, 1}, {0, 0, MIN}, {MAX, 0, 1},
            {0, MAX, 1}, {0, 0, MAX}, {1, 1, MAX}, {MAX, MAX, MAX}, {MAX, 0, MIN}};
        for (int[] r : rows) {
            String call = "move(1, " + r[0] + ", 1, " + r[1] + ", " + r[2] + ")";
            beyond(call, x -> x.move(1, r[0], 1, r[1], r[2]));
        }
    }

    private static void onFull() {
        full("place(0)", x -> x.place(0));
        full("place(99)", x -> x.place(99));
        beyond("place(100): ahead of FULL", x -> x.place(100));
        beyond("place(-1): ahead of FULL", x -> x.place(-1));
        full("tale(69, 255, 6)", x -> x.tale(69, 255, 6));
        beyond("tale(70, 0, 0): ahead of FULL", x -> x.tale(70, 0, 0));
        beyond("tale(0, 256, 0): ahead of FULL", x -> x.tale(0, 256, 0));
        beyond("tale(0, 0, 7): ahead of FULL", x -> x.tale(0, 0, 7));
        full("feed(0, 3)", x -> x.feed(0, 3));
        full("feed(0, 8)", x -> x.feed(0, 8));
        beyond("feed(0, 9): ahead of FULL", x -> x.feed(0, 9));
        full("tell(0)", x -> x.tell(0));
        full("tell(MIN)", x -> x.tell(MIN));
    }

    private static void onLastStep() {
        state("go(0, 1)", x -> x.go(0, 1));
        state("go(0, 0)", x -> x.go(0, 0));
        beyond("go(0, 2): ahead of STATE", x -> x.go(0, 2));
        beyond("go(1, 1): ahead of STATE", x -> x.go(1, 1));
        state("loose(1)", x -> x.loose(1));
        state("loose(60)", x -> x.loose(60));
        beyond("loose(0): ahead of STATE", x -> x.loose(0));
        beyond("loose(61): ahead of STATE", x -> x.loose(61));
    }

    private static void nearTheLast() {
        state("loose(40)", x -> x.loose(40));
        state("loose(60)", x -> x.loose(60));
        BelievedByYard y = made.get();
        Due.is("loose(39)", y.loose(39), 0);
        Due.is("count(2)", y.count(2), 9999);
    }
}
