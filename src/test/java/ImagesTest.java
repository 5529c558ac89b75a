/** Promises 35 to 40: IMAGES, numbers that wait, what is counted and told. */
final class ImagesTest {
    public static void main(String[] args) {
        image();
        restore();
        restoreOfRoadsAndTales();
        restoreOfFewer();
        tell();
        check();
        count();
        told();
        Due.end();
    }

    private static BelievedByYard world() {
        BelievedByYard x = Due.withPlaces(3, 4, 5);
        x.road(0, 1, 0, 7);
        x.road(0, 1, 1, 2);
        x.road(1, 2, 1, 6);
        x.tale(41, 9, 0);
        x.tale(2, 8, 1);
        x.go(0, 1);
        Due.text(x, 0, "b+1");
        Due.text(x, 1, "b=9");
        Due.feed(x, "y+");
        x.tell(4);
        x.tell(5);
        x.seed(99);
        return x;
    }

    private static void image() {
        BelievedByYard x = new BelievedByYard();
        Due.is("image()", x.image(), 1);
        Due.is("image() again", x.image(), 2);
        x.restore();
        Due.is("image() behind restore()", x.image(), 3);
        x = world();
        x.image();
        x.place(77);
        x.image();
        x.place(78);
        x.restore();
        Due.is("count(0): the IMAGE in place of the one ahead", x.count(0), 4);
        Due.is("ofPlace(3, 0)", x.ofPlace(3, 0), 77);
    }

    private static void restore() {
        BelievedByYard x = world();
        Due.is("restore() without an IMAGE", x.restore(), Due.NONE);
        int[] due = seen(x);
        x.sheet(0, 8, 2);
        x.voice(0, 0, 0);
        x.image();
        for (int turn = 0; turn < 2; turn++) {
            spoil(x);
            int[] spoiled = seen(x);
            Due.is("restore()", x.restore(), 1);
            int[] got = seen(x);
            int unlike = 0;
            for (int i = 0; i < due.length; i++) {
                Due.is("what is seen, " + i, got[i], due[i]);
                unlike += spoiled[i] != due[i] ? 1 : 0;
            }
            Due.isTrue("all of it had been spoiled, but for " + (due.length - unlike), unlike > due.length / 2);
        }
        Due.is("count(8): THE TRACE stays as it was", x.count(8), 8);
        Due.is("put(0, 2, 1): SHEETS stay as they were", x.put(0, 2, 1), 1);
        Due.is("move of 16 bits to 8: so do their bits", x.sheet(1, 8, 1) + x.move(0, 0, 1, 0, 1), 1 + Due.KIND);
        Due.is("told(3): what is told stays", x.told(3), 2);
    }

    private static void restoreOfRoadsAndTales() {
        BelievedByYard x = Due.withPlaces(10, 11, 12, 13, 14, 15, 16);
        setAll(x, 1);
        for (int i = 0; i < 7; i++) {
            x.tale(i * 11, 0, i);
        }
        setAll(x, 2);
        x.image();
        setAll(x, 3);
        Due.is("restore()", x.restore(), 0);
        for (int i = 0; i < 7; i++) {
            Due.is("ofPlace(" + i + ", 0)", x.ofPlace(i, 0), 2 * i);
            Due.is("ofTale(" + i + ", 0)", x.ofTale(i, 0), i);
            Due.is("ofTale(" + i + ", 1)", x.ofTale(i, 1), i);
            Due.is("ofTale(" + i + ", 3)", x.ofTale(i, 3), 20 + i);
            for (int k = 0; k < i; k++) {
                Due.is("between(" + i + ", " + k + ", 0)", x.between(i, k, 0), 2 * (7 * i + k));
                Due.is("between(" + k + ", " + i + ", 0)", x.between(k, i, 0), 2 * (7 * i + k));
                Due.is("between(" + i + ", " + k + ", 1)", x.between(i, k, 1), (i + k + 2) % 10);
                Due.is("between(" + k + ", " + i + ", 1)", x.between(k, i, 1), (i + k + 2) % 10);
            }
        }
    }

    private static void setAll(BelievedByYard x, int times) {
        for (int i = 0; i < 7; i++) {
            x.doubt(i, times * i);
            x.become(i, i * 11 + 2 - times);
            x.change(i, 1, 10 * times + i);
            for (int k = 0; k < i; k++) {
                x.road(i, k, 0, times == 3 ? 0 : times * (7 * i + k));
                x.road(i, k, 1, (i + k + times) % 10);
            }
        }
    }

    private static void restoreOfFewer() {
        BelievedByYard x = Due.withPlaces(10);
        x.image();
        x.place(20);
        x.road(0, 1, 0, 5);
        x.road(0, 1, 1, 6);
        x.tale(69, 255, 1);
        x.change(0, 1, 70);
        x.change(0, 3, 80);
        Due.text(x, 0, "b");
        Due.text(x, 1, "0");
        x.restore();
        Due.is("ofPlace(1, 0)", x.ofPlace(1, 0), Due.BEYOND);
        Due.is("ofTale(0, 0)", x.ofTale(0, 0), Due.BEYOND);
        Due.is("law(0, 5, 6, 7)", x.law(0, 5, 6, 7), 11);
        Due.is("law(1, 5, 6, 7)", x.law(1, 5, 6, 7), 1);
        Due.is("place(30)", x.place(30), 1);
        Due.is("ofPlace(1, 0)", x.ofPlace(1, 0), 30);
        Due.is("between(0, 1, 0)", x.between(0, 1, 0), 0);
        Due.is("between(0, 1, 1)", x.between(0, 1, 1), 0);
        Due.is("tale(0, 1, 0)", x.tale(0, 1, 0), 0);
        int[] due = {0, 0, 1, 0, 0, 0, 0};
        for (int what = 0; what < due.length; what++) {
            Due.is("ofTale(0, " + what + ")", x.ofTale(0, what), due[what]);
        }
    }

    /** Changes all that an IMAGE keeps, and some that it doesn't. */
    private static void spoil(BelievedByYard x) {
        x.place(9);
        for (int i = 0; i < 3; i++) {
            x.doubt(i, 50 + i);
        }
        x.road(0, 1, 0, 8);
        x.road(0, 1, 1, 3);
        x.road(1, 2, 0, 4);
        x.road(1, 2, 1, 7);
        x.tale(63, 1, 3);
        x.become(0, 25);
        x.become(1, 36);
        for (int i = 0; i < 2; i++) {
            x.change(i, 0, 200 + i);
            x.change(i, 1, 300 + i);
            x.change(i, 2, 2);
            x.change(i, 3, 400 + i);
        }
        x.go(2, 0);
        x.go(1, 1);
        x.text(0);
        Due.text(x, 0, "b+2");
        Due.text(x, 1, "b=8");
        Due.feed(x, "z");
        x.tell(1);
        x.check();
        x.tell(1);
        x.seed(1);
        x.become(2, 42);
        x.voice(2, 3, 1);
        x.sheet(0, 16, 3);
    }

    /** All that can be seen of what an IMAGE keeps, without changing it. */
    private static int[] seen(BelievedByYard x) {
        int[] seen = new int[34];
        int n = 0;
        for (int what : new int[] {0, 1, 2, 3, 4, 5, 6, 7, 9}) {
            seen[n++] = x.count(what);
        }
        for (int i = 0; i < 3; i++) {
            seen[n++] = x.ofPlace(i, 0);
            seen[n++] = x.between(i, (i + 1) % 3, 0);
            seen[n++] = x.between(i, (i + 1) % 3, 1);
        }
        for (int i = 0; i < 2; i++) {
            for (int what = 0; what <= 6; what++) {
                seen[n++] = x.ofTale(i, what);
            }
        }
        seen[n++] = x.law(0, 5, 0, 0);
        seen[n++] = x.law(1, 9, 0, 0);
        return seen;
    }

    private static void tell() {
        BelievedByYard x = Due.withPlaces(6);
        x.tale(0, 0, 0);
        for (int i = 1; i <= 20; i++) {
            Due.is("tell " + i, x.tell(6), i);
        }
        Due.is("tell 21", x.tell(6), Due.FULL);
        Due.is("count(7)", x.count(7), 20);
        Due.is("check()", x.check(), 2);
        Due.is("count(7) then", x.count(7), 0);
        Due.is("tell(BEYOND)", x.tell(Due.BEYOND), 1);
        x = world();
        x.image();
        x.tell(0);
        x.restore();
        Due.is("tell() behind restore()", x.tell(1), 3);
    }

    private static void check() {
        BelievedByYard x = Due.withPlaces(6, 0);
        x.tale(0, 0, 0);
        x.tale(0, 0, 1);
        x.tale(0, 0, 0);
        Due.is("check() of none", x.check(), 0);
        Due.is("check() of 6, 0, 6", checked(x, 6, 0, 6), 0);
        Due.is("check() of 6: fewer than TALES", checked(x, 6), 0);
        Due.is("check() of 5", checked(x, 5), 1);
        Due.is("check() of 6, 1, 5", checked(x, 6, 1, 5), 2);
        Due.is("check() of 6, 0, 0", checked(x, 6, 0, 0), 3);
        Due.is("check() of 6, 0, 6, 0: no such TALE", checked(x, 6, 0, 6, 0), 4);
        Due.is("check() behind them: none wait", x.check(), 0);
        Due.is("check() without TALES", checked(new BelievedByYard(), 0), 1);
    }

    private static int checked(BelievedByYard x, int... numbers) {
        for (int v : numbers) {
            x.tell(v);
        }
        return x.check();
    }

    private static void count() {
        BelievedByYard x = world();
        x.voice(0, 3, 1);
        // GOSPEL by 7 YARDS: 2 times 3; MARKS 9 + 7 with bits 0, 7; TOLL 2
        int[] due = {3, 2, 1, 6, 2, 0, 2, 2, 8, 99};
        for (int what = 0; what < due.length; what++) {
            Due.is("count(" + what + ")", x.count(what), due[what]);
        }
        x.change(1, 1, 1000);
        x.change(1, 3, 2000);
        x.change(1, 0, 9);
        Due.is("count(3)", x.count(3), 1006);
        Due.is("count(4)", x.count(4), 2002);
        Due.is("count(5)", x.count(5), 1);
        x.change(0, 0, 9);
        Due.is("count(5) of two", x.count(5), 2);
        Due.is("count(10)", x.count(10), Due.BEYOND);
        Due.is("count(-1)", x.count(-1), Due.BEYOND);
        x.seed(Due.NONE);
        Due.is("count(9) as an ERROR's value", x.count(9), Due.NONE);
        Due.is("told(2): it is none", x.told(2), 0);
    }

    private static void told() {
        BelievedByYard x = Due.withPlaces(0);
        x.tale(0, 0, 0);
        for (int i = 0; i < 4; i++) {
            x.place(-1);
        }
        for (int i = 0; i < 3; i++) {
            x.restore();
        }
        x.go(0, 0);
        x.go(0, 0);
        x.as(0, 1);
        for (int i = 0; i < 27; i++) {
            x.tell(0);
        }
        int[] due = {4, 3, 2, 7, 1};
        for (int k = 1; k <= 5; k++) {
            Due.is("told(" + k + ")", x.told(k), due[k - 1]);
        }
        Due.is("told(0)", x.told(0), Due.BEYOND);
        Due.is("told(6)", x.told(6), Due.BEYOND);
        Due.is("told(-1)", x.told(-1), Due.BEYOND);
        Due.is("told(1): those counted, too", x.told(1), 7);
    }
}
