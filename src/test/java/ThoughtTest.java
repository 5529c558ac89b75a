/** Promises 17 to 26: what would be. ModelTest asks the same of any World. */
final class ThoughtTest {
    public static void main(String[] args) {
        reach();
        reachOfSeveral();
        cheap();
        can();
        marked();
        from();
        best();
        late();
        round();
        own();
        odds();
        Due.end();
    }

    private static void reach() {
        BelievedByYard x = Worlds.chain();
        x.tale(0, 10, 0);
        for (int i = 0; i <= 5; i++) {
            Due.is("reach(0, " + i + ", 0)", x.reach(0, i, 0), i);
            Due.is("reach(0, " + i + ", 1)", x.reach(0, i, 1), Math.min(1, i));
            Due.is("reach(0, " + i + ", 2)", x.reach(0, i, 2), 10 + 5 * i);
        }
        Due.is("reach(0, 6, 0): not by 5", x.reach(0, 6, 0), Due.NONE);
        Due.is("reach(0, 6, 1)", x.reach(0, 6, 1), Due.NONE);
        Due.is("reach(0, 6, 2)", x.reach(0, 6, 2), Due.NONE);
        Due.is("reach(0, 7, 0)", x.reach(0, 7, 0), Due.BEYOND);
        Due.is("reach(0, -1, 0)", x.reach(0, -1, 0), Due.BEYOND);
        Due.is("reach(1, 0, 0)", x.reach(1, 0, 0), Due.BEYOND);
        Due.is("reach(-1, 0, 0)", x.reach(-1, 0, 0), Due.BEYOND);
        Due.is("reach(0, 0, 3)", x.reach(0, 0, 3), Due.BEYOND);
        Due.is("reach(0, 6, -1): BEYOND is asked first", x.reach(0, 6, -1), Due.BEYOND);
        x.doubt(0, 1);
        Due.is("reach(0, 0, 0) with DOUBT: there and back", x.reach(0, 0, 0), 2);
        Due.is("reach(0, 0, 1)", x.reach(0, 0, 1), 1);
        Due.is("reach(0, 0, 2)", x.reach(0, 0, 2), 20);
        x.doubt(1, 25);
        Due.is("reach(0, 1, 0) by a ROW of 5", x.reach(0, 1, 0), 5);
        x.doubt(1, 26);
        Due.is("reach(0, 1, 0) with a YARD more", x.reach(0, 1, 0), Due.NONE);
        Due.text(x, 1, "b>39");
        Due.is("reach(0, 2, 0) by a TEXT", x.reach(0, 2, 0), Due.NONE);
        Due.is("reach(0, 2, 0) by a TEXT: told(2)", x.told(2), 5);
        Due.text(x, 1, "b>29");
        Due.is("reach(0, 2, 0) by a TEXT that holds later", x.reach(0, 2, 0), 4);
        Due.is("reach(0, 2, 2)", x.reach(0, 2, 2), 30);
        Due.text(x, 1, "d=7&m=4");
        x.doubt(3, 7);
        x.become(0, 4);
        Due.is("reach(0, 3, 0) by NAMES", x.reach(0, 3, 0), 3);
        x.become(0, 5);
        Due.is("reach(0, 3, 0) by another m", x.reach(0, 3, 0), Due.NONE);
        Due.is("ofTale(0, 4): nobody went", x.ofTale(0, 4), 0);
        Due.is("ofTale(0, 2)", x.ofTale(0, 2), 10);
        Due.is("count(2)", x.count(2), 0);
    }

    private static void reachOfSeveral() {
        BelievedByYard x = Due.withPlaces(0, 0, 0, 30);
        x.road(0, 1, 0, 2);
        x.road(0, 2, 0, 20);
        x.road(1, 3, 0, 3);
        x.road(2, 3, 0, 30);
        x.road(1, 2, 0, 4);
        x.tale(0, 0, 0);
        Due.is("reach(0, 3, 0): by the PLACE 2", x.reach(0, 3, 0), 2);
        Due.is("reach(0, 3, 1)", x.reach(0, 3, 1), 2);
        Due.is("reach(0, 3, 2)", x.reach(0, 3, 2), 50);
        x.doubt(3, 5);
        Due.is("reach(0, 3, 1): the first of two by PLACES", x.reach(0, 3, 1), 1);
        Due.is("reach(0, 3, 2)", x.reach(0, 3, 2), 5);
        x.doubt(3, 46);
        x.road(2, 3, 0, 2);
        Due.is("reach(0, 3, 0) with 46 YARDS", x.reach(0, 3, 0), 4);
        Due.is("reach(0, 3, 1): 0 2 0 1 3 lacks them, 0 2 0 2 3 has", x.reach(0, 3, 1), 2);
        Due.is("reach(0, 3, 2)", x.reach(0, 3, 2), 62);
    }

    private static void cheap() {
        BelievedByYard x = Due.withPlaces(0, 0, 0, 0, 0);
        x.tale(0, 0, 0);
        x.road(0, 3, 0, 1);
        x.road(0, 3, 1, 9);
        x.road(0, 1, 0, 99);
        x.road(0, 1, 1, 4);
        x.road(1, 3, 0, 99);
        x.road(1, 3, 1, 4);
        x.road(0, 2, 0, 90);
        x.road(0, 2, 1, 5);
        x.road(2, 3, 0, 98);
        x.road(2, 3, 1, 3);
        Due.is("cheap(0, 3, 0)", x.cheap(0, 3, 0), 8);
        Due.is("cheap(0, 3, 1): of several the fewest YARDS", x.cheap(0, 3, 1), 188);
        Due.is("cheap(0, 0, 0)", x.cheap(0, 0, 0), 0);
        Due.is("cheap(0, 0, 1)", x.cheap(0, 0, 1), 0);
        Due.is("cheap(0, 4, 0): no way", x.cheap(0, 4, 0), Due.NONE);
        Due.is("cheap(0, 4, 1)", x.cheap(0, 4, 1), Due.NONE);
        x.road(0, 4, 1, 2);
        Due.is("cheap(0, 4, 0): a TOLL is no ROAD", x.cheap(0, 4, 0), Due.NONE);
        x.change(0, 2, 1);
        Due.is("cheap(0, 2, 0) from another PLACE", x.cheap(0, 2, 0), 7);
        Due.is("cheap(0, 2, 1)", x.cheap(0, 2, 1), 197);
        x.become(0, 59);
        Due.is("cheap(0, 2, 1): the ROADS' YARDS, not what a KIND counts", x.cheap(0, 2, 1), 197);
        Due.is("cheap(0, 5, 0)", x.cheap(0, 5, 0), Due.BEYOND);
        Due.is("cheap(0, -1, 0)", x.cheap(0, -1, 0), Due.BEYOND);
        Due.is("cheap(1, 0, 0)", x.cheap(1, 0, 0), Due.BEYOND);
        Due.is("cheap(-1, 0, 0)", x.cheap(-1, 0, 0), Due.BEYOND);
        Due.is("cheap(0, 4, 2): BEYOND is asked first", x.cheap(0, 4, 2), Due.BEYOND);
        Due.is("cheap(0, 0, -1)", x.cheap(0, 0, -1), Due.BEYOND);
        BelievedByYard y = Worlds.chain();
        y.tale(0, 0, 6);
        for (int i = 0; i < 6; i++) {
            y.road(i, i + 1, 0, 99);
            y.road(i, i + 1, 1, 9);
        }
        Due.is("cheap(0, 0, 0) of the longest way", y.cheap(0, 0, 0), 54);
        Due.is("cheap(0, 0, 1)", y.cheap(0, 0, 1), 594);
    }

    private static void can() {
        BelievedByYard x = Worlds.chain();
        x.tale(0, 0, 2);
        Due.is("can(0, 0)", x.can(0, 0), 4);
        Due.is("can(0, 1)", x.can(0, 1), 10);
        Due.is("can(0, 2)", x.can(0, 2), 21);
        Due.is("can(0, 59)", x.can(0, 59), 42);
        Due.is("can(0, 60)", x.can(0, 60), 85);
        x.road(0, 2, 0, 1);
        Due.is("can(0, 60) with a ring of three", x.can(0, 60), 127);
        Due.is("can(0, 61)", x.can(0, 61), Due.BEYOND);
        Due.is("can(0, -1)", x.can(0, -1), Due.BEYOND);
        Due.is("can(1, 0)", x.can(1, 0), Due.BEYOND);
        Due.is("can(-1, 0)", x.can(-1, 0), Due.BEYOND);
        BelievedByYard y = Due.withPlaces(0, 0);
        y.tale(0, 0, 1);
        Due.is("can(0, 0) without ROADS", y.can(0, 0), 2);
        Due.is("can(0, 1) without ROADS", y.can(0, 1), 0);
    }

    private static void marked() {
        BelievedByYard x = Due.withPlaces(0, 0, 0);
        x.tale(0, 0, 0);
        Due.is("marked(0, 0)", x.marked(0, 0), 1);
        Due.is("marked(0, 1) without ROADS", x.marked(0, 1), 0);
        x.road(0, 1, 0, 1);
        x.road(0, 2, 0, 2);
        x.road(1, 2, 0, 4);
        Due.is("marked(0, 1): 1, 2", x.marked(0, 1), 2);
        Due.is("marked(0, 2): 2, 4, 5, 6", x.marked(0, 2), 4);
        Due.is("marked(0, 3): 3, 4, 5, 6, 7, 9, 10", x.marked(0, 3), 7);
        Due.text(x, 0, "7");
        Due.is("marked(0, 4): 7 alone", x.marked(0, 4), 1);
        x.become(0, 20);
        Due.is("marked(0, 4) of FOREIGN: 7 with bit 1, 2, 4", x.marked(0, 4), 3);
        x.become(0, 30);
        Due.is("marked(0, 4) of SMALL", x.marked(0, 4), 1);
        Due.is("marked(0, 5)", x.marked(0, 5), Due.BEYOND);
        Due.is("marked(0, -1)", x.marked(0, -1), Due.BEYOND);
        Due.is("marked(1, 0)", x.marked(1, 0), Due.BEYOND);
        Due.is("marked(-1, 0)", x.marked(-1, 0), Due.BEYOND);
        Due.is("ofTale(0, 2)", x.ofTale(0, 2), 0);
    }

    private static void from() {
        BelievedByYard x = Due.withPlaces(0, 0, 0, 0);
        x.tale(0, 5, 1);
        x.road(1, 0, 0, 3);
        x.road(1, 2, 0, 3);
        x.road(1, 3, 0, 4);
        x.road(0, 2, 0, 3);
        x.road(2, 3, 0, 3);
        Worlds.sheet(x, 0, 16, 5);
        Due.is("from of no STEPS", x.from(0, 0, 0), 1);
        Due.is("its PLACE", x.from(0, 0, 1), 1);
        Worlds.sheet(x, 0, 16, 6);
        Due.is("from of other MARKS", x.from(0, 0, 0), 0);
        Due.is("its PLACE", x.from(0, 0, 1), Due.NONE);
        Worlds.sheet(x, 0, 16, 5, 8);
        Due.is("from of one STEP: to 0 or 2", x.from(0, 0, 0), 2);
        Due.is("the least of them", x.from(0, 0, 1), 0);
        Worlds.sheet(x, 0, 16, 5, 9);
        Due.is("from of the other ROAD", x.from(0, 0, 0), 1);
        Due.is("its PLACE", x.from(0, 0, 1), 3);
        Worlds.sheet(x, 0, 16, 5, 8, 11);
        Due.is("from of two STEPS: 0 1, 0 2, 2 1, 2 0, 2 3", x.from(0, 0, 0), 5);
        Due.is("the least of them", x.from(0, 0, 1), 0);
        Worlds.sheet(x, 0, 16, 5, 8, 11, 14, 17);
        Due.is("from of four STEPS", x.from(0, 0, 0), rows(x, 1, 4));
        Worlds.sheet(x, 0, 16, 5, 9, 13, 17, 21);
        Due.is("from of four STEPS, to and fro", x.from(0, 0, 0), 1);
        Due.is("its PLACE", x.from(0, 0, 1), 1);
        Worlds.sheet(x, 0, 16, 5, 8, 11, 14, 17, 20);
        Due.is("from of six numbers", x.from(0, 0, 0), Due.NONE);
        Worlds.sheet(x, 0, 16);
        Due.is("from of none", x.from(0, 0, 0), Due.NONE);
        Due.is("from of a missing SHEET", x.from(1, 0, 0), Due.NONE);
        Due.is("from(4, 0, 0)", x.from(4, 0, 0), Due.BEYOND);
        Due.is("from(-1, 0, 0)", x.from(-1, 0, 0), Due.BEYOND);
        Due.is("from(1, 1, 0): BEYOND is asked first", x.from(1, 1, 0), Due.BEYOND);
        Due.is("from(1, -1, 0)", x.from(1, -1, 0), Due.BEYOND);
        Due.is("from(1, 0, 2)", x.from(1, 0, 2), Due.BEYOND);
        Due.is("from(1, 0, -1)", x.from(1, 0, -1), Due.BEYOND);
    }

    /** ROWS of n STEPS by ROADS of 3 YARDS alone. */
    private static int rows(BelievedByYard x, int at, int n) {
        int rows = n == 0 ? 1 : 0;
        for (int i = 0; i < 4 && n > 0; i++) {
            if (i != at && x.between(at, i, 0) == 3) {
                rows += rows(x, i, n - 1);
            }
        }
        return rows;
    }

    private static void best() {
        BelievedByYard x = new BelievedByYard();
        Due.is("best(0) without PLACES", x.best(0), Due.NONE);
        Due.is("best(1) without PLACES", x.best(1), Due.NONE);
        Due.is("best(2): BEYOND is asked first", x.best(2), Due.BEYOND);
        Due.is("best(-1)", x.best(-1), Due.BEYOND);
        x.place(9);
        Due.is("best(0) without TALES", x.best(0), 0);
        Due.is("best(1) without TALES", x.best(1), 0);
        x.place(5);
        x.place(5);
        x.place(7);
        x.tale(0, 3, 0);
        x.tale(4, 3, 0);
        x.tale(0, 3, 2);
        x.change(0, 1, 5);
        x.change(1, 1, 7);
        x.change(2, 1, 9);
        Due.is("best(0): of several the least", x.best(0), 1);
        Due.is("best(1)", x.best(1), 3);
        Due.text(x, 1, "d>6|m=4");
        Due.is("best(0) by a TEXT: 3 has two of them", x.best(0), 3);
        Due.is("best(1) by a TEXT", x.best(1), 2);
        Due.text(x, 1, "d=9");
        Due.is("best(0) by another", x.best(0), 0);
        Due.is("best(1) by another", x.best(1), 1);
        Due.text(x, 1, "b=4");
        Due.is("best(0) where nobody believes", x.best(0), 0);
        Due.is("best(1) where nobody believes", x.best(1), 0);
    }

    private static void late() {
        BelievedByYard x = Due.withPlaces(40, 0);
        x.tale(0, 0, 0);
        Due.is("late(0)", x.late(0), 40);
        x.change(0, 1, 39);
        Due.is("late(0) with 39 YARDS", x.late(0), 1);
        x.change(0, 1, 40);
        Due.is("late(0) with 40", x.late(0), 0);
        x.change(0, 1, 9000);
        Due.is("late(0) with more", x.late(0), 0);
        Due.text(x, 1, "0");
        Due.is("late(0): the TEXT doesn't matter", x.late(0), 0);
        Due.is("late(1)", x.late(1), Due.BEYOND);
        Due.is("late(-1)", x.late(-1), Due.BEYOND);
    }

    private static void round() {
        BelievedByYard x = Due.withPlaces(99, 99, 99, 99, 99);
        x.tale(30, 7, 0);
        Due.is("round(0) without ROADS", x.round(0), Due.NONE);
        x.road(0, 1, 0, 1);
        Due.is("round(0) to and fro", x.round(0), 2);
        x.become(0, 60);
        Due.is("round(0) of WIFE: bit 0 is lost", x.round(0), Due.NONE);
        x.change(0, 0, 6);
        Due.is("round(0) of WIFE without bit 0", x.round(0), 2);
        x.become(0, 0);
        Due.is("round(0) of TALE: 6 grows", x.round(0), Due.NONE);
        Due.text(x, 0, "6");
        Due.is("round(0) of TALE: always 6", x.round(0), 2);
        Due.text(x, 0, "(b+1)%5+2");
        x.road(1, 2, 0, 1);
        x.road(2, 0, 0, 1);
        Due.is("round(0) by a ring of five marks: 6 4 2 5 3 6", roundBy(x, "(b-2+3)%5+2"), 5);
        Due.is("round(0) by a ring of three marks", roundBy(x, "b=6|(b=1)*2"), Due.NONE);
        Due.is("round(0) by three marks: 6 1 2 6", roundBy(x, "(b=6)+(b=1)*2+(b=2)*6"), 3);
        x.road(1, 2, 0, 0);
        Due.is("round(0) by three marks without a ring of three", roundBy(x, "(b=6)+(b=1)*2+(b=2)*6"), Due.NONE);
        Due.is("round(0) by four marks: 6 1 2 5 6", roundBy(x, "(b=6)+(b=1)*2+(b=2)*5+(b=5)*6"), 4);
        Due.is("round(1)", x.round(1), Due.BEYOND);
        Due.is("round(-1)", x.round(-1), Due.BEYOND);
        Due.is("ofTale(0, 2)", x.ofTale(0, 2), 6);
    }

    private static int roundBy(BelievedByYard x, String text) {
        Due.is("text(0) of " + text, Due.text(x, 0, text), 1);
        return x.round(0);
    }

    private static void own() {
        BelievedByYard x = Due.withPlaces(0);
        int[] marks = {0, 1, 3, 7, 128, 129, 255};
        for (int i = 0; i < marks.length; i++) {
            x.tale(i * 10, marks[i], 0);
        }
        Due.is("own(0): 1, 3, 128, 129", x.own(0), 2 + 4 + 16 + 32);
        Due.is("own(3): 1, 3", x.own(3), 2 + 4);
        Due.is("own(6)", x.own(6), 0);
        Due.is("own(5)", x.own(5), 1 + 2 + 4 + 16);
        x.change(3, 0, 0);
        Due.is("own(0) with the same MARKS", x.own(0), 2 + 4 + 8 + 16 + 32);
        Due.is("own(7)", x.own(7), Due.BEYOND);
        Due.is("own(-1)", x.own(-1), Due.BEYOND);
    }

    private static void odds() {
        BelievedByYard x = Due.withPlaces(10, 0, 10, 10, 5, 20);
        x.tale(3, 9, 5);
        Due.is("odds(0, 0) of 1 in 6", x.odds(0, 0), 1);
        Due.is("odds(0, 1)", x.odds(0, 1), 6);
        x.change(0, 1, 5);
        Due.is("odds(0, 0) of 2 in 6", x.odds(0, 0), 1);
        Due.is("odds(0, 1)", x.odds(0, 1), 3);
        x.change(0, 1, 19);
        Due.is("odds(0, 0) of 5 in 6", x.odds(0, 0), 5);
        Due.is("odds(0, 1)", x.odds(0, 1), 6);
        x.change(0, 1, 20);
        Due.is("odds(0, 0) of all", x.odds(0, 0), 1);
        Due.is("odds(0, 1)", x.odds(0, 1), 1);
        Due.text(x, 1, "d>5&m=3&b=9");
        Due.is("odds(0, 0) of 4 in 6", x.odds(0, 0), 2);
        Due.is("odds(0, 1)", x.odds(0, 1), 3);
        Due.text(x, 1, "0");
        Due.is("odds(0, 0) of none", x.odds(0, 0), 0);
        Due.is("odds(0, 1): 0 is 0 by 1", x.odds(0, 1), 1);
        Due.is("odds(0, 2)", x.odds(0, 2), Due.BEYOND);
        Due.is("odds(0, -1)", x.odds(0, -1), Due.BEYOND);
        Due.is("odds(1, 0)", x.odds(1, 0), Due.BEYOND);
        Due.is("odds(-1, 0)", x.odds(-1, 0), Due.BEYOND);
    }
}
