/** Promises 7 to 11: tales, their parts and their kinds. */
final class TalesTest {
    public static void main(String[] args) {
        tale();
        ofTale();
        change();
        become();
        as();
        Due.end();
    }

    private static void tale() {
        BelievedByYard x = new BelievedByYard();
        Due.is("tale(0, 0, 0) without PLACES", x.tale(0, 0, 0), Due.BEYOND);
        x.place(0);
        Due.is("tale(-1, 0, 0)", x.tale(-1, 0, 0), Due.BEYOND);
        Due.is("tale(70, 0, 0)", x.tale(70, 0, 0), Due.BEYOND);
        Due.is("tale(0, -1, 0)", x.tale(0, -1, 0), Due.BEYOND);
        Due.is("tale(0, 256, 0)", x.tale(0, 256, 0), Due.BEYOND);
        Due.is("tale(0, 0, 1)", x.tale(0, 0, 1), Due.BEYOND);
        Due.is("tale(0, 0, -1)", x.tale(0, 0, -1), Due.BEYOND);
        for (int i = 0; i < 7; i++) {
            Due.is("tale " + i, x.tale(i * 11, 255 - i, 0), i);
        }
        Due.is("an eighth tale", x.tale(0, 0, 0), Due.FULL);
        Due.is("an eighth tale(70, ..): BEYOND is asked first", x.tale(70, 0, 0), Due.BEYOND);
        Due.is("count(1)", x.count(1), 7);
        Due.is("ofTale(6, 2)", x.ofTale(6, 2), 249);
        Due.is("told(4)", x.told(4), 1);
    }

    private static void ofTale() {
        BelievedByYard x = Due.withPlaces(0, 30);
        x.road(0, 1, 0, 10);
        x.road(0, 1, 1, 6);
        x.tale(57, 3, 0);
        int[] atFirst = {5, 7, 3, 0, 0, 0, 1};
        for (int what = 0; what < atFirst.length; what++) {
            Due.is("ofTale(0, " + what + ") at first", x.ofTale(0, what), atFirst[what]);
        }
        x.go(0, 1);
        // 3 + 10 = 13, bit 10 % 8 = 2 turned: 9, all turned: 246; YARDS 30 + 7
        int[] then = {5, 7, 246, 37, 1, 6, 1};
        for (int what = 0; what < then.length; what++) {
            Due.is("ofTale(0, " + what + ") behind a STEP", x.ofTale(0, what), then[what]);
        }
        x.doubt(1, 37);
        Due.is("ofTale(0, 6) with YARDS as DOUBT", x.ofTale(0, 6), 1);
        x.doubt(1, 38);
        Due.is("ofTale(0, 6) with a YARD less", x.ofTale(0, 6), 0);
        x.doubt(1, 37);
        Due.text(x, 1, "m=7&d=37&b=246");
        Due.is("ofTale(0, 6) by a TEXT's NAMES", x.ofTale(0, 6), 1);
        Due.text(x, 1, "m=6");
        Due.is("ofTale(0, 6) by a TEXT that gives 0", x.ofTale(0, 6), 0);
        Due.text(x, 1, "0-5");
        Due.is("ofTale(0, 6) by a TEXT held at 0", x.ofTale(0, 6), 0);
        Due.is("ofTale(1, 0)", x.ofTale(1, 0), Due.BEYOND);
        Due.is("ofTale(-1, 0)", x.ofTale(-1, 0), Due.BEYOND);
        Due.is("ofTale(0, 7)", x.ofTale(0, 7), Due.BEYOND);
        Due.is("ofTale(0, -1)", x.ofTale(0, -1), Due.BEYOND);
    }

    private static void change() {
        BelievedByYard x = Due.withPlaces(0, 5);
        x.tale(12, 9, 0);
        Due.is("change(0, 0, 255)", x.change(0, 0, 255), 9);
        Due.is("change(0, 0, 0)", x.change(0, 0, 0), 255);
        Due.is("change(0, 1, 9999)", x.change(0, 1, 9999), 0);
        Due.is("change(0, 1, 4)", x.change(0, 1, 4), 9999);
        Due.is("change(0, 2, 1)", x.change(0, 2, 1), 0);
        Due.is("change(0, 2, 1) again", x.change(0, 2, 1), 1);
        Due.is("change(0, 3, 9999)", x.change(0, 3, 9999), 0);
        Due.is("change(0, 3, 77)", x.change(0, 3, 77), 9999);
        int[] parts = {1, 2, 0, 4, 1, 77, 0};
        for (int what = 0; what < parts.length; what++) {
            Due.is("ofTale(0, " + what + ") as changed", x.ofTale(0, what), parts[what]);
        }
        int[][] beyond = {{0, 0, 256}, {0, 0, -1}, {0, 1, 10000}, {0, 1, -1}, {0, 2, 2}, {0, 2, -1},
            {0, 3, 10000}, {0, 3, -1}, {0, 4, 0}, {0, -1, 0}, {1, 0, 0}, {-1, 0, 0}};
        for (int[] c : beyond) {
            Due.is("change(" + c[0] + ", " + c[1] + ", " + c[2] + ")", x.change(c[0], c[1], c[2]), Due.BEYOND);
        }
        for (int what = 0; what < parts.length; what++) {
            Due.is("ofTale(0, " + what + ") after ERRORS", x.ofTale(0, what), parts[what]);
        }
        Due.is("count(2): no STEP", x.count(2), 0);
    }

    private static void become() {
        BelievedByYard x = Due.withPlaces(0);
        x.tale(34, 200, 0);
        x.change(0, 1, 50);
        Due.is("become(0, 69)", x.become(0, 69), 3);
        Due.is("ofTale(0, 0)", x.ofTale(0, 0), 6);
        Due.is("ofTale(0, 1)", x.ofTale(0, 1), 9);
        Due.is("ofTale(0, 2)", x.ofTale(0, 2), 200);
        Due.is("ofTale(0, 3)", x.ofTale(0, 3), 50);
        Due.is("become(0, 0)", x.become(0, 0), 6);
        Due.is("become(0, 70)", x.become(0, 70), Due.BEYOND);
        Due.is("become(0, -1)", x.become(0, -1), Due.BEYOND);
        Due.is("become(1, 0)", x.become(1, 0), Due.BEYOND);
        Due.is("become(-1, 0)", x.become(-1, 0), Due.BEYOND);
        Due.is("ofTale(0, 0) after ERRORS", x.ofTale(0, 0), 0);
    }

    private static void as() {
        BelievedByYard x = Due.withPlaces(0);
        x.tale(0, 0, 0);
        int[] under = {1, 3, 5, 9, 19, 37, 73};
        for (int kind = 0; kind <= 6; kind++) {
            x.become(0, kind * 10 + 8);
            for (int wanted = 0; wanted <= 6; wanted++) {
                int due = (under[kind] >> wanted & 1) != 0 ? 8 : Due.KIND;
                // under[] has a bit for each KIND that this one is
                Due.is("KIND " + kind + " as(0, " + wanted + ")", x.as(0, wanted), due);
            }
        }
        Due.is("as(0, 7)", x.as(0, 7), Due.BEYOND);
        Due.is("as(0, -1)", x.as(0, -1), Due.BEYOND);
        Due.is("as(1, 0)", x.as(1, 0), Due.BEYOND);
        Due.is("as(-1, 0)", x.as(-1, 0), Due.BEYOND);
    }
}
