/** Promises 1 to 6: a new object, places, roads. */
final class PlacesTest {
    public static void main(String[] args) {
        newObject();
        place();
        doubt();
        ofPlace();
        road();
        between();
        Due.end();
    }

    private static void newObject() {
        BelievedByYard x = new BelievedByYard();
        for (int what = 0; what <= 8; what++) {
            Due.is("new: count(" + what + ")", x.count(what), 0);
        }
        Due.is("new: count(9)", x.count(9), 1);
        for (int k = 1; k <= 5; k++) {
            Due.is("new: told(" + k + ")", x.told(k), 0);
        }
        Due.is("new: ofPlace(0, 0)", x.ofPlace(0, 0), Due.BEYOND);
        Due.is("new: ofTale(0, 0)", x.ofTale(0, 0), Due.BEYOND);
        Due.is("new: law(0, 5, 6, 7)", x.law(0, 5, 6, 7), 11);
        Due.is("new: law(1, 5, 6, 7)", x.law(1, 5, 6, 7), 1);
        Due.is("new: trace(0)", x.trace(0), Due.NONE);
        for (int i = 0; i < 4; i++) {
            Due.is("new: judge(" + i + ")", x.judge(i), Due.NONE);
        }
        Due.is("new: restore()", x.restore(), Due.NONE);
        Due.is("new: check()", x.check(), 0);
        BelievedByYard other = Due.withPlaces(3);
        Due.is("another object's count(0)", new BelievedByYard().count(0), 0);
        Due.is("its own count(0)", other.count(0), 1);
    }

    private static void place() {
        BelievedByYard x = new BelievedByYard();
        Due.is("place(-1)", x.place(-1), Due.BEYOND);
        Due.is("place(100)", x.place(100), Due.BEYOND);
        for (int i = 0; i < 7; i++) {
            Due.is("place(" + i * 16 + ")", x.place(i * 16), i);
        }
        Due.is("an eighth place(5)", x.place(5), Due.FULL);
        Due.is("an eighth place(100): BEYOND is asked first", x.place(100), Due.BEYOND);
        Due.is("count(0)", x.count(0), 7);
        Due.is("ofPlace(6, 0)", x.ofPlace(6, 0), 96);
        Due.is("place(99)", Due.withPlaces(1).place(99), 1);
        Due.is("told(1)", x.told(1), 3);
        Due.is("told(4)", x.told(4), 1);
    }

    private static void doubt() {
        BelievedByYard x = Due.withPlaces(7, 8);
        Due.is("doubt(1, 99)", x.doubt(1, 99), 8);
        Due.is("doubt(1, 0)", x.doubt(1, 0), 99);
        Due.is("doubt(1, 100)", x.doubt(1, 100), Due.BEYOND);
        Due.is("doubt(1, -1)", x.doubt(1, -1), Due.BEYOND);
        Due.is("doubt(2, 1)", x.doubt(2, 1), Due.BEYOND);
        Due.is("doubt(-1, 1)", x.doubt(-1, 1), Due.BEYOND);
        Due.is("ofPlace(1, 0)", x.ofPlace(1, 0), 0);
        Due.is("ofPlace(0, 0)", x.ofPlace(0, 0), 7);
    }

    private static void ofPlace() {
        BelievedByYard x = Due.withPlaces(10, 20, 0);
        x.tale(0, 1, 0);
        x.tale(0, 2, 1);
        x.tale(0, 3, 0);
        x.tale(0, 4, 0);
        x.change(2, 1, 10);
        x.change(3, 1, 9);
        Due.is("ofPlace(0, 1)", x.ofPlace(0, 1), 13);
        Due.is("ofPlace(1, 1)", x.ofPlace(1, 1), 2);
        Due.is("ofPlace(2, 1)", x.ofPlace(2, 1), 0);
        Due.is("ofPlace(0, 2)", x.ofPlace(0, 2), 1);
        Due.is("ofPlace(1, 2)", x.ofPlace(1, 2), 0);
        Due.is("ofPlace(2, 2)", x.ofPlace(2, 2), 0);
        x.change(0, 1, 50);
        Due.is("ofPlace(0, 2) with two", x.ofPlace(0, 2), 2);
        Due.text(x, 1, "b<2");
        Due.is("ofPlace(0, 2) by a TEXT", x.ofPlace(0, 2), 1);
        Due.is("ofPlace(3, 0)", x.ofPlace(3, 0), Due.BEYOND);
        Due.is("ofPlace(-1, 0)", x.ofPlace(-1, 0), Due.BEYOND);
        Due.is("ofPlace(0, 3)", x.ofPlace(0, 3), Due.BEYOND);
        Due.is("ofPlace(0, -1)", x.ofPlace(0, -1), Due.BEYOND);
    }

    private static void road() {
        BelievedByYard x = Due.withPlaces(0, 0, 0);
        x.tale(0, 0, 0);
        Due.is("road(0, 1, 0, 99)", x.road(0, 1, 0, 99), 0);
        Due.is("road(1, 0, 0, 5)", x.road(1, 0, 0, 5), 99);
        Due.is("road(0, 1, 1, 9)", x.road(0, 1, 1, 9), 0);
        Due.is("road(1, 0, 1, 4)", x.road(1, 0, 1, 4), 9);
        Due.is("road(1, 0, 0, 0)", x.road(1, 0, 0, 0), 5);
        Due.is("go(0, 1) without a ROAD", x.go(0, 1), Due.STATE);
        Due.is("between(0, 1, 1): TOLL is kept", x.between(0, 1, 1), 4);
        Due.is("road(0, 2, 1, 3) where there is none", x.road(0, 2, 1, 3), 0);
        Due.is("between(2, 0, 1)", x.between(2, 0, 1), 3);
        Due.is("between(2, 0, 0)", x.between(2, 0, 0), 0);
        Due.is("road(0, 1, 0, 100)", x.road(0, 1, 0, 100), Due.BEYOND);
        Due.is("road(0, 1, 0, -1)", x.road(0, 1, 0, -1), Due.BEYOND);
        Due.is("road(0, 1, 1, 10)", x.road(0, 1, 1, 10), Due.BEYOND);
        Due.is("road(0, 1, 1, -1)", x.road(0, 1, 1, -1), Due.BEYOND);
        Due.is("road(0, 1, 2, 1)", x.road(0, 1, 2, 1), Due.BEYOND);
        Due.is("road(0, 1, -1, 1)", x.road(0, 1, -1, 1), Due.BEYOND);
        Due.is("road(1, 1, 0, 1)", x.road(1, 1, 0, 1), Due.BEYOND);
        Due.is("road(3, 1, 0, 1)", x.road(3, 1, 0, 1), Due.BEYOND);
        Due.is("road(1, 3, 0, 1)", x.road(1, 3, 0, 1), Due.BEYOND);
        Due.is("road(-1, 1, 0, 1)", x.road(-1, 1, 0, 1), Due.BEYOND);
        Due.is("road(1, -1, 0, 1)", x.road(1, -1, 0, 1), Due.BEYOND);
        Due.is("between(0, 1, 0) after them", x.between(0, 1, 0), 0);
    }

    private static void between() {
        BelievedByYard x = Due.withPlaces(0, 0, 0, 0);
        x.road(1, 2, 0, 12);
        x.road(2, 1, 1, 7);
        x.road(3, 0, 0, 1);
        Due.is("between(1, 2, 0)", x.between(1, 2, 0), 12);
        Due.is("between(2, 1, 0)", x.between(2, 1, 0), 12);
        Due.is("between(1, 2, 1)", x.between(1, 2, 1), 7);
        Due.is("between(2, 1, 1)", x.between(2, 1, 1), 7);
        Due.is("between(0, 3, 0)", x.between(0, 3, 0), 1);
        Due.is("between(0, 1, 0)", x.between(0, 1, 0), 0);
        Due.is("between(0, 0, 0)", x.between(0, 0, 0), Due.BEYOND);
        Due.is("between(0, 4, 0)", x.between(0, 4, 0), Due.BEYOND);
        Due.is("between(4, 0, 0)", x.between(4, 0, 0), Due.BEYOND);
        Due.is("between(-1, 0, 0)", x.between(-1, 0, 0), Due.BEYOND);
        Due.is("between(0, -1, 0)", x.between(0, -1, 0), Due.BEYOND);
        Due.is("between(0, 1, 2)", x.between(0, 1, 2), Due.BEYOND);
        Due.is("between(0, 1, -1)", x.between(0, 1, -1), Due.BEYOND);
    }
}
