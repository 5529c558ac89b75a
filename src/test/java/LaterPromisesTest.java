/** The sentences of the promises 27 to 40 that name a boundary case, a test each, on both sides of it. */
final class LaterPromisesTest {
    private static final int MIN = Integer.MIN_VALUE;
    private static final int MAX = Integer.MAX_VALUE;

    public static void main(String[] args) {
        seedVoiceTrace();
        sheet();
        put();
        move();
        moveAsTheyWere();
        marks();
        judge();
        image();
        whatAnImageLeavesOut();
        restore();
        tell();
        check();
        count();
        told();
        Due.end();
    }

    private static void seedVoiceTrace() {
        Sentence.ofPromise(27, "z becomes v: what it was (any number).");
        BelievedByYard x = Worlds.pair(1, 0, 0);
        int before = 1;
        for (int v : new int[] {0, MIN, MAX, Due.BEYOND, Due.KIND, -1, 1}) {
            Due.is("seed(" + v + ")", x.seed(v), before);
            Due.is("count(9)", x.count(9), v);
            before = v;
        }
        Due.is("told(1): none of them is an ERROR", x.told(1), 0);
        Due.is("told(5): none of them is an ERROR", x.told(5), 0);
        Sentence.ofPromise(28, "A VOICE of a TALE: any number. BEYOND.");
        Due.is("voice(0, 0, MIN)", x.voice(0, 0, MIN), MIN);
        Due.is("voice(0, 0, BEYOND)", x.voice(0, 0, Due.BEYOND), Due.BEYOND);
        Due.is("told(1): neither is an ERROR", x.told(1), 0);
        Due.is("voice(0, 4, 0)", x.voice(0, 4, 0), Due.BEYOND);
        Due.is("voice(0, -1, 0)", x.voice(0, -1, 0), Due.BEYOND);
        Due.is("voice(1, 0, 0)", x.voice(1, 0, 0), Due.BEYOND);
        Due.is("voice(-1, 0, 0)", x.voice(-1, 0, 0), Due.BEYOND);
        Due.is("told(1)", x.told(1), 4);
        Sentence.ofPromise(29, "THE TRACE's i-th. NONE: there is none such.");
        Due.is("trace(0)", x.trace(0), 10);
        Due.is("trace(1)", x.trace(1), Due.NONE);
        Due.is("trace(-1)", x.trace(-1), Due.NONE);
        Due.is("trace(MIN)", x.trace(MIN), Due.NONE);
        Due.is("trace(MAX)", x.trace(MAX), Due.NONE);
        x.voice(0, 3, 0);
        Due.is("trace(3)", x.trace(3), 12);
        Due.is("trace(4)", x.trace(4), Due.NONE);
        Due.is("trace(0) of a new object", new BelievedByYard().trace(0), Due.NONE);
    }

    private static void sheet() {
        Sentence.ofPromise(30, "A SHEET has n numbers, all 0, of so many bits");
        BelievedByYard x = Worlds.pair(1, 0, 0);
        for (int bits : new int[] {8, 16, 32}) {
            x.sheet(0, bits, 40);
            for (int i : new int[] {0, 1, 39}) {
                Due.isTrue("number " + i + " is 0", Worlds.has(x, 0, i, bits, 0));
                x.put(0, i, 1);
                Due.isTrue("number " + i + " is 1", Worlds.has(x, 0, i, bits, 1));
            }
            Due.is("sheet(0, " + bits + ", 40) again", x.sheet(0, bits, 40), 1);
            for (int i : new int[] {0, 1, 39}) {
                Due.isTrue("number " + i + " is 0 again", Worlds.has(x, 0, i, bits, 0));
            }
            x.put(0, 1, 1);
            x.sheet(0, bits, 1);
            Due.is("put(0, 1, 1) behind sheet(0, " + bits + ", 1)", x.put(0, 1, 1), Due.BEYOND);
            x.sheet(0, bits, 2);
            Due.isTrue("number 1 is 0, it had been 1", Worlds.has(x, 0, 1, bits, 0));
        }
        Sentence.ofPromise(30, "0: it is missing, n doesn't matter): 1.");
        for (int n : new int[] {0, 1, -1, 41, MIN, MAX}) {
            x.sheet(0, 8, 3);
            Due.is("sheet(0, 0, " + n + ")", x.sheet(0, 0, n), 1);
            Due.is("put(0, 0, 1)", x.put(0, 0, 1), Due.NONE);
        }
        Due.is("sheet(0, 0, 5), it being missing", x.sheet(0, 0, 5), 1);
        Sentence.ofPromise(30, "BEYOND. STATE: n is below 0 (ahead of BEYOND of n).");
        Due.is("sheet(0, 8, 0)", x.sheet(0, 8, 0), 1);
        Due.is("sheet(0, 8, -1)", x.sheet(0, 8, -1), Due.STATE);
        Due.is("sheet(0, 8, MIN)", x.sheet(0, 8, MIN), Due.STATE);
        Due.is("sheet(0, 8, 41)", x.sheet(0, 8, 41), Due.BEYOND);
        Due.is("sheet(0, 8, MAX)", x.sheet(0, 8, MAX), Due.BEYOND);
        Due.is("sheet(4, 8, -1)", x.sheet(4, 8, -1), Due.BEYOND);
        Due.is("sheet(-1, 8, -1)", x.sheet(-1, 8, -1), Due.BEYOND);
        Due.is("sheet(0, 12, -1)", x.sheet(0, 12, -1), Due.BEYOND);
        Due.is("put(0, 0, 1): it still has no number", x.put(0, 0, 1), Due.BEYOND);
    }

    private static void put() {
        Sentence.ofPromise(31, "Number i of a SHEET becomes v (its lowest bits): 1.");
        BelievedByYard x = Worlds.pair(1, 0, 0);
        int[][] rows = { // bits, v, the number then
            {8, 127, 127}, {8, 256, 0}, {8, 257, 1}, {8, 383, 127}, {8, -256, 0}, {8, -129, 127}, {8, MIN, 0},
            {8, 65536, 0}, {16, 255, 255}, {16, 256, 256}, {16, 9999, 9999}, {16, 65536, 0}, {16, 75535, 9999},
            {16, -65536, 0}, {16, -65535, 1}, {16, MIN, 0}, {32, 9999, 9999}, {32, 256, 256},
        };
        for (int[] r : rows) {
            x.sheet(0, r[0], 2);
            Due.is("put(0, 1, " + r[1] + ")", x.put(0, 1, r[1]), 1);
            Due.isTrue(r[1] + " by " + r[0] + " bits is " + r[2], Worlds.has(x, 0, 1, r[0], r[2]));
            Due.isTrue("number 0 is still 0", Worlds.has(x, 0, 0, r[0], 0));
        }
        x.sheet(0, 32, 1);
        for (int v : new int[] {65536, MIN, 1 << 30, -256}) {
            x.put(0, 0, v);
            Due.isTrue(v + " by 32 bits isn't 0", !Worlds.has(x, 0, 0, 32, 0));
        }
        Sentence.ofPromise(31, "BEYOND: no such SHEET. NONE: it is missing. BEYOND: no such number.");
        x.sheet(0, 16, 40);
        Due.is("put(4, 0, 1)", x.put(4, 0, 1), Due.BEYOND);
        Due.is("put(-1, 0, 1)", x.put(-1, 0, 1), Due.BEYOND);
        Due.is("put(1, 0, 1)", x.put(1, 0, 1), Due.NONE);
        Due.is("put(1, -1, 1)", x.put(1, -1, 1), Due.NONE);
        Due.is("put(0, -1, 1)", x.put(0, -1, 1), Due.BEYOND);
        Due.is("put(0, 40, 1)", x.put(0, 40, 1), Due.BEYOND);
        Due.is("put(0, 39, 1)", x.put(0, 39, 1), 1);
        x.sheet(0, 16, 0);
        Due.is("put(0, 0, 1) of no number", x.put(0, 0, 1), Due.BEYOND);
    }

    private static void move() {
        Sentence.ofPromise(32, "BEYOND: no such SHEET. NONE: one is missing. KIND: they are of unlike bits.");
        BelievedByYard x = Worlds.pair(1, 0, 0);
        Worlds.sheet(x, 0, 16, 1, 2, 3);
        Worlds.sheet(x, 1, 8, 4, 5, 6);
        Due.is("move(0, 0, 4, 0, 1)", x.move(0, 0, 4, 0, 1), Due.BEYOND);
        Due.is("move(4, 0, 2, 0, 1)", x.move(4, 0, 2, 0, 1), Due.BEYOND);
        Due.is("move(2, 0, -1, 0, 1)", x.move(2, 0, -1, 0, 1), Due.BEYOND);
        Due.is("move(2, 0, 0, 0, 1)", x.move(2, 0, 0, 0, 1), Due.NONE);
        Due.is("move(0, 0, 2, 0, 1)", x.move(0, 0, 2, 0, 1), Due.NONE);
        Due.is("move(0, -1, 2, 0, -1)", x.move(0, -1, 2, 0, -1), Due.NONE);
        Due.is("move(0, 0, 1, 0, 1)", x.move(0, 0, 1, 0, 1), Due.KIND);
        Due.is("move(1, 0, 0, 0, 0)", x.move(1, 0, 0, 0, 0), Due.KIND);
        Due.is("move(0, -1, 1, 9, 99)", x.move(0, -1, 1, 9, 99), Due.KIND);
        x.sheet(1, 32, 3);
        Due.is("move(0, 0, 1, 0, 1) of 16 bits to 32", x.move(0, 0, 1, 0, 1), Due.KIND);
        Sentence.ofPromise(32, "BEYOND: n, i, or j is below 0, or they don't stand there.");
        Worlds.sheet(x, 1, 16, 4, 5, 6, 7, 8);
        int[][] rows = { // i in three numbers, j in five, n, due
            {0, 0, 3, 3}, {0, 2, 3, 3}, {2, 4, 1, 1}, {0, 0, 0, 0}, {3, 5, 0, 0}, {0, 0, 4, Due.BEYOND},
            {1, 0, 3, Due.BEYOND}, {0, 3, 3, Due.BEYOND}, {3, 0, 1, Due.BEYOND}, {0, 5, 1, Due.BEYOND},
            {-1, 0, 1, Due.BEYOND}, {0, -1, 1, Due.BEYOND}, {0, 0, -1, Due.BEYOND}, {-1, 0, 0, Due.BEYOND},
            {0, -1, 0, Due.BEYOND}, {4, 0, 0, Due.BEYOND}, {0, 6, 0, Due.BEYOND}, {4, 6, -1, Due.BEYOND},
            {MAX, 0, 1, Due.BEYOND}, {0, MAX, 1, Due.BEYOND}, {1, 0, MAX, Due.BEYOND}, {MIN, MIN, MIN, Due.BEYOND},
        };
        for (int[] r : rows) {
            String call = "move(0, " + r[0] + ", 1, " + r[1] + ", " + r[2] + ")";
            Due.is(call, x.move(0, r[0], 1, r[1], r[2]), r[3]);
        }
        int[] due = {1, 2, 1, 2, 3};
        for (int i = 0; i < due.length; i++) {
            Due.isTrue("number " + i + " is " + due[i], Worlds.has(x, 1, i, 16, due[i]));
        }
        x.sheet(0, 8, 40);
        x.sheet(2, 8, 40);
        Due.is("move(0, 0, 2, 0, 40)", x.move(0, 0, 2, 0, 40), 40);
        Due.is("move(0, 0, 2, 0, 41)", x.move(0, 0, 2, 0, 41), Due.BEYOND);
    }

    private static void moveAsTheyWere() {
        Sentence.ofPromise(32, "come to another one (or the same), from its number j on, as they all were: n.");
        for (int bits : new int[] {8, 16, 32}) {
            moved(bits, 0, 1, 4, new int[] {1, 1, 2, 3, 4});
            moved(bits, 1, 0, 4, new int[] {2, 3, 4, 5, 5});
            moved(bits, 0, 2, 3, new int[] {1, 2, 1, 2, 3});
            moved(bits, 2, 0, 3, new int[] {3, 4, 5, 4, 5});
            moved(bits, 0, 0, 5, new int[] {1, 2, 3, 4, 5});
            moved(bits, 3, 3, 0, new int[] {1, 2, 3, 4, 5});
        }
    }

    private static void moved(int bits, int i, int j, int n, int[] due) {
        BelievedByYard x = Worlds.pair(1, 0, 0);
        Worlds.sheet(x, 0, bits, 1, 2, 3, 4, 5);
        Due.is("move(0, " + i + ", 0, " + j + ", " + n + ")", x.move(0, i, 0, j, n), n);
        for (int k = 0; k < due.length; k++) {
            Due.isTrue("then number " + k + " is " + due[k], Worlds.has(x, 0, k, bits, due[k]));
        }
    }

    private static BelievedByYard withThree() {
        BelievedByYard x = Due.withPlaces(0);
        for (int i = 0; i < 3; i++) {
            x.tale(0, 50 + i, 0);
        }
        return x;
    }

    private static void marked(int bits, int[] numbers, int due) {
        BelievedByYard x = withThree();
        Worlds.sheet(x, 2, bits, numbers);
        String call = "marks(2) of " + java.util.Arrays.toString(numbers);
        Due.is(call, x.marks(2), due);
        for (int i = 0; i < 3; i++) {
            Due.is(call + ": ofTale(" + i + ", 2)", x.ofTale(i, 2), i < due ? numbers[i] : 50 + i);
        }
        for (int k = 1; k <= 5; k++) {
            Due.is(call + ": told(" + k + ")", x.told(k), 0);
        }
    }

    private static void marks() {
        Sentence.ofPromise(33, "how many, up to the first that is not 0 to 255 (no ERROR then)");
        marked(32, new int[] {0, 255, 1}, 3);
        marked(32, new int[] {0, 256, 1}, 1);
        marked(32, new int[] {0, -1, 1}, 1);
        marked(32, new int[] {256, 1, 1}, 0);
        marked(32, new int[] {MIN, 1, 1}, 0);
        marked(32, new int[] {1, 2, MAX}, 2);
        marked(16, new int[] {255, 256, 1}, 1);
        Sentence.ofPromise(33, "or for which there is no TALE.");
        marked(8, new int[] {}, 0);
        marked(8, new int[] {9}, 1);
        marked(8, new int[] {9, 8}, 2);
        marked(8, new int[] {9, 8, 7}, 3);
        marked(8, new int[] {9, 8, 7, 6}, 3);
        marked(16, new int[] {9, 8, 7, 256}, 3);
        BelievedByYard x = new BelievedByYard();
        x.sheet(0, 8, 40);
        Due.is("marks(0) without TALES", x.marks(0), 0);
        Sentence.ofPromise(33, "BEYOND: no such SHEET. NONE: it is missing.");
        Due.is("marks(4)", x.marks(4), Due.BEYOND);
        Due.is("marks(-1)", x.marks(-1), Due.BEYOND);
        Due.is("marks(3)", x.marks(3), Due.NONE);
        Due.is("sheet(0, 0, 0)", x.sheet(0, 0, 0), 1);
        Due.is("marks(0)", x.marks(0), Due.NONE);
    }

    private static void judged(int due, int... numbers) {
        BelievedByYard x = withThree();
        x.change(0, 1, 9999);
        x.change(2, 1, 1);
        Worlds.sheet(x, 1, 16, numbers);
        Due.is("judge(1) of " + java.util.Arrays.toString(numbers), x.judge(1), due);
    }

    private static void judge() {
        Sentence.ofPromise(34, "the first that isn't so (one that lacks, or is too many, too); -1: all are.");
        judged(-1, 9999, 0, 1);
        judged(0, 9998, 0, 1);
        judged(1, 9999, 1, 1);
        judged(1, 9999, -1, 1);
        judged(2, 9999, 0, 0);
        judged(0, 0, 1, 2);
        judged(0);
        judged(1, 9999);
        judged(2, 9999, 0);
        judged(3, 9999, 0, 1, 0);
        judged(3, 9999, 0, 1, 0, 0);
        judged(0, 0, 0, 1, 0);
        BelievedByYard x = new BelievedByYard();
        x.sheet(0, 8, 0);
        Due.is("judge(0) of no number, no TALE being there", x.judge(0), -1);
        x.sheet(0, 8, 1);
        Due.is("judge(0) of one, no TALE being there", x.judge(0), 0);
        Sentence.ofPromise(34, "BEYOND: no such SHEET. NONE: it is missing.");
        Due.is("judge(4)", x.judge(4), Due.BEYOND);
        Due.is("judge(-1)", x.judge(-1), Due.BEYOND);
        Due.is("judge(1)", x.judge(1), Due.NONE);
    }

    private static void image() {
        Sentence.ofPromise(35, "is kept as an IMAGE, in place of one ahead: how often that was done.");
        BelievedByYard x = new BelievedByYard();
        Due.is("image() of nothing", x.image(), 1);
        x.place(5);
        Due.is("image() again", x.image(), 2);
        x.place(6);
        x.restore();
        Due.is("count(0): the latter is kept", x.count(0), 1);
        Due.is("image() behind restore()", x.image(), 3);
        x = new BelievedByYard();
        x.image();
        x.place(5);
        x.restore();
        Due.is("count(0): an IMAGE of nothing", x.count(0), 0);
        Due.is("tale(0, 0, 0)", x.tale(0, 0, 0), Due.BEYOND);
    }

    private static void whatAnImageLeavesOut() {
        Sentence.ofPromise(35, "All (but SHEETS, THE TRACE, what told() tells, and how often this was done)");
        BelievedByYard x = Worlds.pair(1, 0, 0);
        x.sheet(0, 8, 1);
        x.voice(0, 0, 0);
        x.place(-1);
        x.image();
        x.sheet(0, 16, 2);
        x.put(0, 1, 9);
        x.sheet(1, 32, 1);
        x.voice(0, 3, 0);
        x.place(-1);
        Due.feed(x, "b");
        x.tell(7);
        x.seed(44);
        Due.text(x, 1, "0");
        x.restore();
        Due.is("put(0, 1, 9): SHEET 0 has two numbers", x.put(0, 1, 9), 1);
        Due.isTrue("of 16 bits, with 9", Worlds.has(x, 0, 1, 16, 9));
        Due.is("put(1, 0, 9): SHEET 1 isn't missing", x.put(1, 0, 9), 1);
        Due.is("count(8)", x.count(8), 4);
        Due.is("trace(0)", x.trace(0), 13);
        Due.is("told(1)", x.told(1), 2);
        Due.is("image()", x.image(), 2);
        Due.is("count(6): THE TAPE is as it was", x.count(6), 0);
        Due.is("count(7): so are the numbers that wait", x.count(7), 0);
        Due.is("count(9): so is z", x.count(9), 1);
        Due.is("law(1, 0, 0, 0): so are TEXTS", x.law(1, 0, 0, 0), 1);
    }

    private static void restore() {
        Sentence.ofPromise(36, "All is as the IMAGE has it, which stays: STEP. NONE: there is none.");
        BelievedByYard x = Worlds.pair(1, 0, 0);
        Due.is("restore() without an IMAGE", x.restore(), Due.NONE);
        x.go(0, 1);
        x.image();
        for (int i = 0; i < 3; i++) {
            x.go(0, 0);
            x.go(0, 1);
            Due.is("count(2)", x.count(2), 3);
            Due.is("restore()", x.restore(), 1);
            Due.is("count(2)", x.count(2), 1);
            Due.is("count(3)", x.count(3), 1);
        }
        Due.is("restore() behind restore()", x.restore(), 1);
        x = new BelievedByYard();
        x.image();
        Due.is("restore() at STEP 0", x.restore(), 0);
        x = Worlds.atLastStep();
        x.image();
        Due.is("restore() at STEP 9999", x.restore(), 9999);
    }

    private static void tell() {
        Sentence.ofPromise(37, "One more number waits: how many. FULL: 20 wait.");
        BelievedByYard x = new BelievedByYard();
        int[] any = {0, MIN, MAX, Due.FULL};
        for (int i = 1; i <= 20; i++) {
            Due.is("tell(..)", x.tell(any[i % 4]), i);
        }
        Due.is("tell(0), 20 waiting", x.tell(0), Due.FULL);
        Due.is("count(7)", x.count(7), 20);
        x.check();
        Due.is("tell(0) behind check()", x.tell(0), 1);
    }

    private static void checked(int due, int... numbers) {
        BelievedByYard x = Due.withPlaces(99, 1);
        x.tale(0, 0, 0);
        x.tale(0, 0, 1);
        x.tale(0, 0, 1);
        x.change(2, 1, 1);
        for (int v : numbers) {
            x.tell(v);
        }
        Due.is("check() of " + java.util.Arrays.toString(numbers), x.check(), due);
        Due.is("count(7) then", x.count(7), 0);
        Due.is("check() then", x.check(), 0);
    }

    private static void check() {
        Sentence.ofPromise(38, "The numbers that wait (none do then) are LATE of TALES 0, 1, .. (where there is none, none is so): "
            + "0; else 1 and the place (from 0) of the first that isn't so.");
        checked(0);
        checked(0, 99);
        checked(0, 99, 1);
        checked(0, 99, 1, 0);
        checked(4, 99, 1, 0, 0);
        checked(1, 98, 1, 0, 0);
        checked(1, 100);
        checked(1, 98, 2);
        checked(2, 99, 0, 0);
        checked(3, 99, 1, -1);
        checked(3, 99, 1, 1);
        BelievedByYard x = new BelievedByYard();
        Due.is("check() of nothing", x.check(), 0);
        x.tell(0);
        Due.is("check() of 0 without TALES", x.check(), 1);
    }

    private static void count() {
        Sentence.ofPromise(39, "0 PLACES, 1 TALES, 2 STEP, 3 YARDS of all TALES, 4 COSTS of all TALES, 5 how many TALES are BELIEVED");
        BelievedByYard x = Due.withPlaces(0, 0, 0, 0, 0, 0, 0);
        Due.is("count(5) without TALES", x.count(5), 0);
        for (int i = 0; i < 7; i++) {
            x.tale(0, 0, i);
            x.change(i, 1, 9999);
            x.change(i, 3, 9999);
        }
        int[] due = {7, 7, 0, 7 * 9999, 7 * 9999, 7};
        for (int what = 0; what < due.length; what++) {
            Due.is("count(" + what + ")", x.count(what), due[what]);
        }
        x.doubt(3, 1);
        x.change(3, 1, 0);
        Due.is("count(5), one lacking a YARD", x.count(5), 6);
        Due.text(x, 1, "0");
        Due.is("count(5), the TEXT giving 0", x.count(5), 0);
        Sentence.ofPromise(39, "6 bytes of THE TAPE, 7 numbers that wait, 8 BODIES in THE TRACE, 9 z (any number). BEYOND.");
        x.feed(0, 8);
        x.tell(0);
        x.voice(0, 3, 0);
        x.seed(Due.STATE);
        int[] rest = {8, 1, 4, Due.STATE, Due.BEYOND};
        for (int i = 0; i < rest.length; i++) {
            Due.is("count(" + (6 + i) + ")", x.count(6 + i), rest[i]);
        }
        Due.is("count(-1)", x.count(-1), Due.BEYOND);
        Due.is("count(MIN)", x.count(MIN), Due.BEYOND);
        Due.is("count(MAX)", x.count(MAX), Due.BEYOND);
        Due.is("told(3): z is no ERROR", x.told(3), 0);
    }

    private static void told() {
        Sentence.ofPromise(40, "How many acts have answered an ERROR LOW - k (k 1 .. 5)");
        BelievedByYard x = Worlds.pair(1, 0, 0);
        for (int k = 1; k <= 5; k++) {
            Due.is("told(" + k + ") at first", x.told(k), 0);
        }
        x.place(100);
        Due.is("told(1)", x.told(1), 1);
        x.restore();
        x.restore();
        Due.is("told(2)", x.told(2), 2);
        for (int i = 0; i < 3; i++) {
            x.go(0, 0);
        }
        Due.is("told(3)", x.told(3), 3);
        for (int i = 0; i < 24; i++) {
            x.tell(0);
        }
        Due.is("told(4)", x.told(4), 4);
        for (int i = 0; i < 5; i++) {
            x.as(0, 1);
        }
        for (int k = 1; k <= 5; k++) {
            Due.is("told(" + k + ")", x.told(k), k);
        }
        Sentence.ofPromise(40, "BEYOND: another k (counted, too).");
        int due = 1;
        for (int k : new int[] {0, 6, -1, 7, MIN, MAX}) {
            Due.is("told(" + k + ")", x.told(k), Due.BEYOND);
            due++;
            Due.is("told(1)", x.told(1), due);
        }
        Due.is("told(5)", x.told(5), 5);
    }
}
