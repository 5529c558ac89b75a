/** Promises 30 to 34: SHEETS. */
final class SheetsTest {
    public static void main(String[] args) {
        sheet();
        put();
        move();
        marks();
        judge();
        Due.end();
    }

    private static BelievedByYard withTale() {
        BelievedByYard x = Due.withPlaces(0);
        x.tale(0, 0, 0);
        return x;
    }

    private static void sheet() {
        BelievedByYard x = withTale();
        for (int bits : new int[] {8, 16, 32}) {
            Due.is("sheet(0, " + bits + ", 40)", x.sheet(0, bits, 40), 1);
            Due.isTrue("its last number is 0", Worlds.has(x, 0, 39, bits, 0));
            Due.is("put(0, 40, 1)", x.put(0, 40, 1), Due.BEYOND);
            Due.is("sheet(0, " + bits + ", 0)", x.sheet(0, bits, 0), 1);
            Due.is("put(0, 0, 1) with no number", x.put(0, 0, 1), Due.BEYOND);
        }
        x.sheet(1, 16, 3);
        x.put(1, 2, 9);
        Due.is("sheet(1, 16, 41)", x.sheet(1, 16, 41), Due.BEYOND);
        Due.is("sheet(1, 16, -1)", x.sheet(1, 16, -1), Due.STATE);
        Due.is("sheet(1, 16, MIN_VALUE)", x.sheet(1, 16, Integer.MIN_VALUE), Due.STATE);
        Due.is("sheet(1, 9, -1): BEYOND of bits is asked first", x.sheet(1, 9, -1), Due.BEYOND);
        Due.is("sheet(1, 64, 1)", x.sheet(1, 64, 1), Due.BEYOND);
        Due.is("sheet(1, -8, 1)", x.sheet(1, -8, 1), Due.BEYOND);
        Due.is("sheet(4, 8, -1): BEYOND of the SHEET is asked first", x.sheet(4, 8, -1), Due.BEYOND);
        Due.is("sheet(-1, 8, 1)", x.sheet(-1, 8, 1), Due.BEYOND);
        Due.isTrue("the SHEET after ERRORS", Worlds.has(x, 1, 2, 16, 9));
        x.put(1, 0, 8);
        x.sheet(1, 16, 3);
        Due.isTrue("the last is 0 when made anew", Worlds.has(x, 1, 2, 16, 0));
        Due.isTrue("the first, too", Worlds.has(x, 1, 0, 16, 0));
        Due.is("sheet(1, 0, -5): n doesn't matter", x.sheet(1, 0, -5), 1);
        Due.is("put(1, 0, 1) on a missing one", x.put(1, 0, 1), Due.NONE);
        Due.is("sheet(1, 0, 500)", x.sheet(1, 0, 500), 1);
        Due.is("sheet(7, 0, 0)", x.sheet(7, 0, 0), Due.BEYOND);
    }

    private static void put() {
        BelievedByYard x = withTale();
        Due.is("put(0, 0, 1) on a missing one", x.put(0, 0, 1), Due.NONE);
        Due.is("put(4, 0, 1)", x.put(4, 0, 1), Due.BEYOND);
        Due.is("put(-1, 0, 1)", x.put(-1, 0, 1), Due.BEYOND);
        Due.is("put(0, 99, 1): NONE is asked first", x.put(0, 99, 1), Due.NONE);
        x.sheet(0, 8, 2);
        x.sheet(1, 16, 2);
        x.sheet(2, 32, 2);
        Due.is("put(0, 2, 1)", x.put(0, 2, 1), Due.BEYOND);
        Due.is("put(0, -1, 1)", x.put(0, -1, 1), Due.BEYOND);
        Due.is("put(0, 1, 256 + 100)", x.put(0, 1, 356), 1);
        Due.isTrue("8 bits of it", Worlds.has(x, 0, 1, 8, 100));
        Due.is("put(1, 1, 65536 + 9000)", x.put(1, 1, 74536), 1);
        Due.isTrue("16 bits of it", Worlds.has(x, 1, 1, 16, 9000));
        Due.is("put(1, 1, 356)", x.put(1, 1, 356), 1);
        Due.isTrue("16 bits of it", Worlds.has(x, 1, 1, 16, 356));
        Due.is("put(2, 1, 9999)", x.put(2, 1, 9999), 1);
        Due.isTrue("32 bits of it", Worlds.has(x, 2, 1, 32, 9999));
        x.put(2, 1, 65536);
        Due.isTrue("32 bits hold more than 16", !Worlds.has(x, 2, 1, 32, 0));
        x.put(2, 1, -1);
        Due.isTrue("-1 stays what it is", !Worlds.has(x, 2, 1, 32, 255));
        x.put(0, 1, 200);
        Due.isTrue("8 bits have a sign, as Java's byte has", !Worlds.has(x, 0, 1, 8, 200));
        Due.isTrue("number 0 is still 0", Worlds.has(x, 0, 0, 8, 0));
    }

    private static void move() {
        BelievedByYard x = withTale();
        x.sheet(0, 16, 5);
        x.sheet(1, 16, 3);
        x.sheet(2, 8, 3);
        for (int i = 0; i < 5; i++) {
            x.put(0, i, 10 + i);
        }
        Due.is("move(0, 1, 1, 0, 3)", x.move(0, 1, 1, 0, 3), 3);
        for (int i = 0; i < 3; i++) {
            Due.isTrue("number " + i, Worlds.has(x, 1, i, 16, 11 + i));
        }
        Due.is("move(0, 0, 0, 1, 4): on itself, forward", x.move(0, 0, 0, 1, 4), 4);
        int[] forward = {10, 10, 11, 12, 13};
        for (int i = 0; i < 5; i++) {
            Due.isTrue("forward number " + i, Worlds.has(x, 0, i, 16, forward[i]));
        }
        Due.is("move(0, 2, 0, 0, 3): on itself, back", x.move(0, 2, 0, 0, 3), 3);
        int[] back = {11, 12, 13, 12, 13};
        for (int i = 0; i < 5; i++) {
            Due.isTrue("back number " + i, Worlds.has(x, 0, i, 16, back[i]));
        }
        x.sheet(3, 0, 0);
        int[][] rows = { // sheet, i, other, j, n, due
            {4, 0, 0, 0, 1, Due.BEYOND}, {0, 0, 4, 0, 1, Due.BEYOND}, {-1, 0, 3, 0, 1, Due.BEYOND},
            {0, 0, -1, 0, 1, Due.BEYOND}, {3, 0, 4, 0, 1, Due.BEYOND}, {3, 0, 0, 0, 1, Due.NONE},
            {0, 0, 3, 0, 1, Due.NONE}, {3, -1, 3, 0, 1, Due.NONE}, {0, 0, 2, 0, 1, Due.KIND},
            {2, 0, 0, 0, 0, Due.KIND}, {0, -1, 2, 0, -1, Due.KIND}, {0, 0, 1, 0, -1, Due.BEYOND},
            {0, -1, 1, 0, 1, Due.BEYOND}, {0, 0, 1, -1, 1, Due.BEYOND}, {0, 4, 1, 0, 2, Due.BEYOND},
            {0, 0, 1, 2, 2, Due.BEYOND}, {0, 0, 1, 0, 4, Due.BEYOND}, {0, 5, 1, 0, 1, Due.BEYOND},
            {0, Integer.MAX_VALUE, 1, 0, 1, Due.BEYOND}, {0, 0, 1, Integer.MAX_VALUE, 1, Due.BEYOND},
            {0, 1, 1, 1, Integer.MAX_VALUE, Due.BEYOND}, {0, 5, 1, 3, 0, 0}, {0, 0, 1, 0, 0, 0},
            {0, 6, 1, 0, 0, Due.BEYOND}, {0, 0, 1, 4, 0, Due.BEYOND}, {0, 4, 1, 2, 1, 1},
        };
        for (int[] r : rows) {
            String call = "move(" + r[0] + ", " + r[1] + ", " + r[2] + ", " + r[3] + ", " + r[4] + ")";
            Due.is(call, x.move(r[0], r[1], r[2], r[3], r[4]), r[5]);
        }
        int[] then = {11, 12, 13};
        for (int i = 0; i < 3; i++) {
            Due.isTrue("number " + i + " after ERRORS", Worlds.has(x, 1, i, 16, then[i]));
        }
    }

    private static BelievedByYard withThree() {
        BelievedByYard x = Due.withPlaces(0);
        for (int i = 0; i < 3; i++) {
            x.tale(0, 50 + i, 0);
        }
        return x;
    }

    private static void marks() {
        BelievedByYard x = withThree();
        Due.is("marks(4)", x.marks(4), Due.BEYOND);
        Due.is("marks(-1)", x.marks(-1), Due.BEYOND);
        Due.is("marks(0) missing", x.marks(0), Due.NONE);
        x.sheet(0, 16, 0);
        Due.is("marks(0) of no number", x.marks(0), 0);
        x.sheet(0, 16, 2);
        x.put(0, 0, 255);
        Due.is("marks(0) of two", x.marks(0), 2);
        Due.is("ofTale(0, 2)", x.ofTale(0, 2), 255);
        Due.is("ofTale(1, 2)", x.ofTale(1, 2), 0);
        Due.is("ofTale(2, 2)", x.ofTale(2, 2), 52);
        x.sheet(0, 16, 5);
        Due.is("marks(0) of five", x.marks(0), 3);
        x = withThree();
        x.sheet(1, 32, 3);
        x.put(1, 0, 9);
        x.put(1, 1, 256);
        Due.is("marks(1) up to 256", x.marks(1), 1);
        Due.is("ofTale(0, 2)", x.ofTale(0, 2), 9);
        Due.is("ofTale(1, 2)", x.ofTale(1, 2), 51);
        Due.is("ofTale(2, 2)", x.ofTale(2, 2), 52);
        x.put(1, 0, -1);
        Due.is("marks(1) up to -1", x.marks(1), 0);
        Due.is("ofTale(0, 2)", x.ofTale(0, 2), 9);
        Due.is("told(1): no ERROR", x.told(1), 0);
        Due.is("marks(1) without TALES", none().marks(1), 0);
    }

    private static BelievedByYard none() {
        BelievedByYard x = Due.withPlaces(0);
        x.sheet(1, 8, 2);
        return x;
    }

    private static void judge() {
        BelievedByYard x = withThree();
        Due.is("judge(4)", x.judge(4), Due.BEYOND);
        Due.is("judge(-1)", x.judge(-1), Due.BEYOND);
        Due.is("judge(0) missing", x.judge(0), Due.NONE);
        x.change(0, 1, 9999);
        x.change(2, 1, 3);
        x.sheet(0, 16, 3);
        x.put(0, 0, 9999);
        x.put(0, 2, 3);
        Due.is("judge(0): all are", x.judge(0), -1);
        x.put(0, 1, 1);
        Due.is("judge(0): 1 isn't", x.judge(0), 1);
        x.put(0, 0, 9998);
        Due.is("judge(0): 0 isn't", x.judge(0), 0);
        x.sheet(0, 16, 0);
        Due.is("judge(0): all lack", x.judge(0), 0);
        x.sheet(0, 16, 2);
        x.put(0, 0, 9999);
        Due.is("judge(0): one lacks", x.judge(0), 2);
        x.sheet(0, 16, 4);
        x.put(0, 0, 9999);
        x.put(0, 2, 3);
        Due.is("judge(0): one is too many", x.judge(0), 3);
        x.sheet(0, 32, 3);
        x.put(0, 0, 9999 + 65536);
        Due.is("judge(0) of 32 bits", x.judge(0), 0);
        Due.is("judge(1) without TALES", none().judge(1), 0);
        x = Due.withPlaces(0);
        x.sheet(0, 8, 0);
        Due.is("judge(0) of nothing with no TALES", x.judge(0), -1);
    }
}
