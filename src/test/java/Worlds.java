/** Worlds that several tests begin with. */
final class Worlds {
    private Worlds() {
    }

    /** Two PLACES that believe all, with a ROAD of y YARDS, and a TALE AT PLACE 0. */
    static BelievedByYard pair(int y, int km, int marks) {
        BelievedByYard x = Due.withPlaces(0, 0);
        x.road(0, 1, 0, y);
        x.tale(km, marks, 0);
        return x;
    }

    /** One ROAD of y YARDS from PLACE 2 to PLACE 3, gone by a TALE with MARKS b. */
    static BelievedByYard gone(int km, int b, int y, String text) {
        BelievedByYard x = Due.withPlaces(0, 0, 0, 0);
        x.road(2, 3, 0, y);
        x.tale(km, b, 2);
        if (!text.isEmpty()) {
            Due.is("text(0) of " + text, Due.text(x, 0, text), 1);
        }
        Due.is("go(0, 3)", x.go(0, 3), 1);
        return x;
    }

    /** 0 -5- 1 -5- 2 -5- 3 -5- 4 -5- 5 -5- 6 with no other ROADS; all believe. */
    static BelievedByYard chain() {
        BelievedByYard x = Due.withPlaces(0, 0, 0, 0, 0, 0, 0);
        for (int i = 0; i < 6; i++) {
            x.road(i, i + 1, 0, 5);
        }
        return x;
    }

    /** Seven PLACES that believe all, with ROADS of y YARDS between all of them. */
    static BelievedByYard net(int y) {
        BelievedByYard x = Due.withPlaces(0, 0, 0, 0, 0, 0, 0);
        for (int i = 0; i < 7; i++) {
            for (int k = 0; k < i; k++) {
                x.road(i, k, 0, y);
            }
        }
        return x;
    }

    /** A pair with STEP 9999, the last; the TALE is SMALL with MARKS 5, so it stays as it is told. */
    static BelievedByYard atLastStep() {
        BelievedByYard x = atStep(9999);
        x.place(0);
        x.place(0);
        x.road(0, 1, 0, 3);
        x.tale(30, 5, 0);
        return x;
    }

    /** No PLACES, no TALES, just STEPS by draws. */
    static BelievedByYard atStep(int step) {
        BelievedByYard x = new BelievedByYard();
        for (int left = step; left > 0; left -= Math.min(60, left)) {
            x.loose(Math.min(60, left));
        }
        Due.is("count(2)", x.count(2), step);
        return x;
    }

    static void sheet(BelievedByYard x, int sheet, int bits, int... numbers) {
        Due.is("sheet(" + sheet + ", " + bits + ", " + numbers.length + ")", x.sheet(sheet, bits, numbers.length), 1);
        for (int i = 0; i < numbers.length; i++) {
            x.put(sheet, i, numbers[i]);
        }
    }

    /** A number of a SHEET, seen through judge(): YARDS of TALE 0 that are so. SHEET 3 is made for it. */
    static boolean has(BelievedByYard x, int sheet, int i, int bits, int v) {
        x.sheet(3, bits, 1);
        Due.is("move to look", x.move(sheet, i, 3, 0, 1), 1);
        x.change(0, 1, v);
        return x.judge(3) == -1;
    }
}
