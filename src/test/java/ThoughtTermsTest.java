/** The sentences of the Terms (3) that name a boundary case, a test each, on both sides of it. */
final class ThoughtTermsTest {
    private static final int MIN = Integer.MIN_VALUE;
    private static final int MAX = Integer.MAX_VALUE;

    public static void main(String[] args) {
        onlyThought();
        rows();
        reach();
        reachOfSeveral();
        cheap();
        can();
        marked();
        from();
        fame();
        best();
        late();
        round();
        own();
        odds();
        draws();
        drawnTales();
        voices();
        bodies();
        trace();
        Due.end();
    }

    private static void onlyThought() {
        Sentence.ofTerms("All this is only thought, STEP beyond 9999, too");
        BelievedByYard x = Worlds.atLastStep();
        x.doubt(0, 12);
        Due.is("reach(0, 0, 0), four STEPS beyond it", x.reach(0, 0, 0), 4);
        Due.is("can(0, 60)", x.can(0, 60), 1);
        Due.is("marked(0, 4)", x.marked(0, 4), 1);
        Worlds.sheet(x, 0, 32, 5, 5, 5, 5, 5);
        Due.is("from(0, 0, 0)", x.from(0, 0, 0), 1);
        Due.is("from(0, 0, 1)", x.from(0, 0, 1), 0);
        Due.is("round(0)", x.round(0), 2);
        Due.is("cheap(0, 1, 1)", x.cheap(0, 1, 1), 3);
        Due.is("count(2): nobody went", x.count(2), 9999);
        int[] parts = {3, 0, 5, 0, 0, 0, 0};
        for (int what = 0; what < parts.length; what++) {
            Due.is("ofTale(0, " + what + "): nobody went", x.ofTale(0, what), parts[what]);
        }
        Due.is("told(3)", x.told(3), 0);
    }

    private static void rows() {
        Sentence.ofTerms("to each of which there is a ROAD from the one ahead (the first one from where the TALE is AT)");
        BelievedByYard x = Due.withPlaces(0, 0, 0, 0);
        x.tale(0, 0, 1);
        x.road(0, 3, 0, 1);
        x.road(2, 3, 0, 1);
        Due.is("reach(0, 3, 0), the TALE having no ROAD", x.reach(0, 3, 0), Due.NONE);
        Due.is("can(0, 1)", x.can(0, 1), 0);
        x.road(1, 2, 0, 1);
        Due.is("reach(0, 0, 0) by 2, 3, 0", x.reach(0, 0, 0), 3);
        Due.is("can(0, 3)", x.can(0, 3), 1 + 4);
        Sentence.ofTerms("a PLACE may come again");
        x = Worlds.pair(5, 0, 0);
        x.doubt(1, 11);
        Due.is("reach(0, 1, 0) by 1, 0, 1", x.reach(0, 1, 0), 3);
        x.doubt(0, 20);
        Due.is("reach(0, 0, 0) by 1, 0, 1, 0", x.reach(0, 0, 0), 4);
    }

    private static void reach() {
        Sentence.ofTerms("the fewest STEPS (0 to 5) of a ROW by which it is AT it");
        BelievedByYard x = Worlds.chain();
        x.tale(0, 10, 0);
        Due.is("reach(0, 0, 0)", x.reach(0, 0, 0), 0);
        Due.is("reach(0, 1, 0)", x.reach(0, 1, 0), 1);
        Due.is("reach(0, 5, 0)", x.reach(0, 5, 0), 5);
        Due.is("reach(0, 6, 0): six", x.reach(0, 6, 0), Due.NONE);
        x.road(0, 5, 0, 90);
        Due.is("reach(0, 5, 0) by one more ROAD", x.reach(0, 5, 0), 1);
        Due.is("reach(0, 6, 0) by it", x.reach(0, 6, 0), 2);
        Sentence.ofTerms("and BELIEVED there");
        x = Worlds.pair(5, 0, 0);
        x.doubt(1, 25);
        Due.is("reach(0, 1, 0), 25 YARDS behind five STEPS", x.reach(0, 1, 0), 5);
        x.doubt(1, 26);
        Due.is("reach(0, 1, 0), a YARD more", x.reach(0, 1, 0), Due.NONE);
        x.change(0, 1, 1);
        Due.is("reach(0, 1, 0), a YARD walked before", x.reach(0, 1, 0), 5);
        Due.text(x, 1, "0");
        Due.is("reach(0, 1, 0), the TEXT giving 0", x.reach(0, 1, 0), Due.NONE);
        x.doubt(0, 0);
        Due.is("reach(0, 0, 0), the TEXT giving 0", x.reach(0, 0, 0), Due.NONE);
        Due.text(x, 1, "b>24");
        Due.is("reach(0, 1, 0), the TEXT giving 1 behind five", x.reach(0, 1, 0), 5);
        Due.text(x, 1, "b>25");
        Due.is("reach(0, 1, 0), the TEXT giving 1 behind seven", x.reach(0, 1, 0), Due.NONE);
    }

    private static void reachOfSeveral() {
        Sentence.ofTerms("of several such ROWS the first one by PLACES, one behind the other: how many");
        BelievedByYard x = Due.withPlaces(0, 0, 0, 0, 0);
        x.road(0, 1, 0, 1);
        x.road(1, 2, 0, 2);
        x.road(1, 3, 0, 4);
        x.road(2, 4, 0, 16);
        x.road(3, 4, 0, 32);
        x.tale(0, 0, 0);
        Due.is("reach(0, 4, 0)", x.reach(0, 4, 0), 3);
        Due.is("reach(0, 4, 1)", x.reach(0, 4, 1), 1);
        Due.is("reach(0, 4, 2) by 1, 2, 4", x.reach(0, 4, 2), 19);
        x.doubt(4, 20);
        Due.is("reach(0, 4, 0)", x.reach(0, 4, 0), 3);
        Due.is("reach(0, 4, 2) by 1, 3, 4, the first one BELIEVED", x.reach(0, 4, 2), 37);
        x.road(0, 3, 0, 64);
        Due.is("reach(0, 4, 0): fewer STEPS are ahead of PLACES", x.reach(0, 4, 0), 2);
        Due.is("reach(0, 4, 1)", x.reach(0, 4, 1), 3);
        Due.is("reach(0, 4, 2)", x.reach(0, 4, 2), 96);
        x.road(0, 2, 0, 64);
        Due.is("reach(0, 4, 1) of two", x.reach(0, 4, 1), 2);
        Due.is("reach(0, 4, 2) of two", x.reach(0, 4, 2), 80);
        Sentence.ofTerms("the first PLACE of it (that it is AT, if none)");
        x.change(0, 2, 3);
        Due.is("reach(0, 3, 0) of where it is", x.reach(0, 3, 0), 0);
        Due.is("reach(0, 3, 1) of where it is", x.reach(0, 3, 1), 3);
        Due.is("reach(0, 0, 1) of the next one", x.reach(0, 0, 1), 0);
        Due.is("reach(0, 2, 1)", x.reach(0, 2, 1), 0);
        Sentence.ofTerms("MARKS then");
        x.change(0, 0, 200);
        Due.is("reach(0, 3, 2) of where it is", x.reach(0, 3, 2), 200);
        Due.is("reach(0, 0, 2): 264, its lowest eight bits", x.reach(0, 0, 2), 8);
        Due.is("ofTale(0, 2): its own are as they were", x.ofTale(0, 2), 200);
    }

    private static void cheap() {
        Sentence.ofTerms("each PLACE once at most");
        BelievedByYard x = Worlds.chain();
        x.tale(0, 0, 0);
        Due.is("cheap(0, 0, 0) to where it is", x.cheap(0, 0, 0), 0);
        Due.is("cheap(0, 0, 1) to where it is", x.cheap(0, 0, 1), 0);
        for (int i = 0; i < 6; i++) {
            x.road(i, i + 1, 0, 99);
            x.road(i, i + 1, 1, 9);
        }
        Due.is("cheap(0, 6, 0) by all PLACES", x.cheap(0, 6, 0), 54);
        Due.is("cheap(0, 6, 1) by all PLACES", x.cheap(0, 6, 1), 594);
        Sentence.ofTerms("that with least TOLLS together; of several the one of fewest YARDS");
        for (int i = 0; i < 6; i++) {
            x.road(i, i + 1, 1, 0);
        }
        x.road(0, 6, 0, 1);
        x.road(0, 6, 1, 1);
        Due.is("cheap(0, 6, 0): a TOLL more outweighs 593 YARDS", x.cheap(0, 6, 0), 0);
        Due.is("cheap(0, 6, 1)", x.cheap(0, 6, 1), 594);
        x.road(5, 6, 1, 1);
        Due.is("cheap(0, 6, 0): TOLLS of both are 1", x.cheap(0, 6, 0), 1);
        Due.is("cheap(0, 6, 1): the fewest YARDS", x.cheap(0, 6, 1), 1);
        x.road(5, 6, 1, 0);
        x.road(0, 6, 1, 0);
        x.road(0, 6, 0, 99);
        x.road(2, 6, 0, 1);
        Due.is("cheap(0, 6, 1): 99 + 99 + 1 against 99", x.cheap(0, 6, 1), 99);
        x.road(0, 1, 0, 49);
        x.road(1, 2, 0, 48);
        Due.is("cheap(0, 6, 1): 49 + 48 + 1 against 99", x.cheap(0, 6, 1), 98);
    }

    private static void can() {
        Sentence.ofTerms("PLACES AT which a TALE can be behind just n STEPS (0 to 60), as a set");
        BelievedByYard x = Worlds.pair(1, 0, 0);
        x.change(0, 2, 1);
        Due.is("can(0, 0)", x.can(0, 0), 2);
        Due.is("can(0, 1)", x.can(0, 1), 1);
        Due.is("can(0, 59)", x.can(0, 59), 1);
        Due.is("can(0, 60)", x.can(0, 60), 2);
        Due.is("can(0, 61)", x.can(0, 61), Due.BEYOND);
        Due.is("can(0, -1)", x.can(0, -1), Due.BEYOND);
        x.road(0, 1, 0, 0);
        Due.is("can(0, 0) without ROADS", x.can(0, 0), 2);
        Due.is("can(0, 1) without ROADS", x.can(0, 1), 0);
        Due.is("can(0, 60) without ROADS", x.can(0, 60), 0);
        x = Worlds.net(1);
        x.tale(0, 0, 6);
        Due.is("can(0, 1) by all ROADS", x.can(0, 1), 63);
        Due.is("can(0, 2) by all ROADS", x.can(0, 2), 127);
    }

    private static void marked() {
        Sentence.ofTerms("how many unlike MARKS it can have behind just n STEPS (0 to 4), AT any PLACE");
        BelievedByYard x = Worlds.pair(1, 0, 250);
        x.place(0);
        x.road(0, 2, 0, 1);
        Due.is("marked(0, 0)", x.marked(0, 0), 1);
        Due.is("marked(0, 1): the same ones AT two PLACES", x.marked(0, 1), 1);
        x.road(0, 2, 0, 2);
        Due.is("marked(0, 1)", x.marked(0, 1), 2);
        Due.is("marked(0, 4): 254, 256 (0), 258 (2)", x.marked(0, 4), 3);
        Due.is("marked(0, 5)", x.marked(0, 5), Due.BEYOND);
        Due.is("marked(0, -1)", x.marked(0, -1), Due.BEYOND);
        Due.text(x, 0, "(y=2)*255");
        Due.is("marked(0, 1): 0 and 255", x.marked(0, 1), 2);
        Due.is("marked(0, 4): 0 and 255", x.marked(0, 4), 2);
        x.change(0, 2, 1);
        x.road(0, 1, 0, 0);
        Due.is("marked(0, 0) without ROADS", x.marked(0, 0), 1);
        Due.is("marked(0, 1) without ROADS", x.marked(0, 1), 0);
        Due.is("marked(0, 4) without ROADS", x.marked(0, 4), 0);
    }

    private static void from() {
        Sentence.ofTerms("a SHEET tells MARKS of a TALE behind 0, 1, .. STEPS (its own now first; 1 to 5 numbers)");
        BelievedByYard x = Worlds.pair(1, 0, 7);
        int[] numbers = {7, 8, 9, 10, 11, 12};
        int[] due = {Due.NONE, 1, 1, 1, 1, 1, Due.NONE};
        for (int n = 0; n <= 6; n++) {
            Worlds.sheet(x, 1, 16, java.util.Arrays.copyOf(numbers, n));
            Due.is("from(1, 0, 0) of " + n + " numbers", x.from(1, 0, 0), due[n]);
        }
        for (int i = 0; i < 5; i++) {
            for (int v : new int[] {numbers[i] + 1, numbers[i] - 256, numbers[i] + 256}) {
                Worlds.sheet(x, 1, 32, java.util.Arrays.copyOf(numbers, 5));
                x.put(1, i, v);
                Due.is("from(1, 0, 0), number " + i + " being " + v, x.from(1, 0, 0), 0);
            }
        }
        Sentence.ofTerms("by how many ROWS that is so");
        x = Worlds.net(1);
        x.tale(0, 255, 2);
        Worlds.sheet(x, 0, 16, 255, 0, 1, 2, 3);
        Due.is("from(0, 0, 0) by all ROWS of four", x.from(0, 0, 0), 6 * 6 * 6 * 6);
        Worlds.sheet(x, 0, 16, 255, 0);
        Due.is("from(0, 0, 0) by all ROWS of one", x.from(0, 0, 0), 6);
        Worlds.sheet(x, 0, 16, 255);
        Due.is("from(0, 0, 0) by the ROW of none", x.from(0, 0, 0), 1);
        Worlds.sheet(x, 0, 16, 254);
        Due.is("from(0, 0, 0) by no ROW", x.from(0, 0, 0), 0);
        Sentence.ofTerms("the least PLACE AT which it can be then");
        Due.is("from(0, 0, 1) by no ROW", x.from(0, 0, 1), Due.NONE);
        Worlds.sheet(x, 0, 16, 255);
        Due.is("from(0, 0, 1) by the ROW of none", x.from(0, 0, 1), 2);
        Worlds.sheet(x, 0, 16, 255, 0);
        Due.is("from(0, 0, 1) by ROWS of one", x.from(0, 0, 1), 0);
        x.road(2, 0, 0, 2);
        Due.is("from(0, 0, 1), 0 having other MARKS", x.from(0, 0, 1), 1);
        for (int i = 0; i < 6; i++) {
            x.road(2, i, 0, 0);
        }
        Due.is("from(0, 0, 1) by one ROW, to the last PLACE", x.from(0, 0, 1), 6);
    }

    private static void fame() {
        Sentence.ofTerms("FAME of a PLACE: how many of the TALES that are AT it are BELIEVED there");
        BelievedByYard x = Due.withPlaces(5, 0);
        Due.is("ofPlace(0, 2) without TALES", x.ofPlace(0, 2), 0);
        for (int i = 0; i < 7; i++) {
            x.tale(0, i, 0);
            x.change(i, 1, i);
        }
        Due.is("ofPlace(0, 2): TALES with 5 and 6 YARDS", x.ofPlace(0, 2), 2);
        Due.is("ofPlace(1, 2): nobody is AT it", x.ofPlace(1, 2), 0);
        x.doubt(0, 0);
        Due.is("ofPlace(0, 2): all", x.ofPlace(0, 2), 7);
        x.change(6, 2, 1);
        Due.is("ofPlace(0, 2): one less", x.ofPlace(0, 2), 6);
        Due.is("ofPlace(1, 2): one", x.ofPlace(1, 2), 1);
    }

    private static void best() {
        Sentence.ofTerms("most would be BELIEVED; of several the least; how many");
        BelievedByYard x = Due.withPlaces(9, 9, 9);
        Due.is("best(0) without TALES: all alike", x.best(0), 0);
        Due.is("best(1) without TALES", x.best(1), 0);
        x.tale(0, 0, 0);
        Due.is("best(0), nobody being BELIEVED", x.best(0), 0);
        Due.is("best(1), nobody being BELIEVED", x.best(1), 0);
        x.doubt(2, 0);
        Due.is("best(0): 2 alone, where it is not", x.best(0), 2);
        Due.is("best(1): one", x.best(1), 1);
        x.doubt(1, 0);
        Due.is("best(0) of two", x.best(0), 1);
        x.tale(0, 0, 0);
        x.change(1, 1, 9);
        Due.is("best(0): the least of those with two", x.best(0), 1);
        Due.is("best(1): two", x.best(1), 2);
        x.change(0, 1, 9);
        Due.is("best(0): all alike", x.best(0), 0);
    }

    private static void late() {
        Sentence.ofTerms("by how many YARDS more a TALE would have DOUBT of where it is (0: it has it)");
        BelievedByYard x = Due.withPlaces(99, 0);
        x.tale(0, 0, 0);
        int[][] rows = {{0, 99}, {98, 1}, {99, 0}, {100, 0}, {9999, 0}};
        for (int[] r : rows) {
            x.change(0, 1, r[0]);
            Due.is("late(0) with " + r[0] + " YARDS", x.late(0), r[1]);
        }
        x.change(0, 1, 0);
        x.change(0, 2, 1);
        Due.is("late(0) AT another", x.late(0), 0);
    }

    private static void round() {
        Sentence.ofTerms("the fewest STEPS (1 to 5) of a ROW by which it is AT its PLACE again with the MARKS that it has now");
        BelievedByYard x = Worlds.pair(1, 30, 7);
        Due.is("round(0): two, none is no ROUND", x.round(0), 2);
        x.road(0, 1, 0, 0);
        Due.is("round(0) without ROADS", x.round(0), Due.NONE);
        x = Due.withPlaces(99, 99, 99);
        x.road(0, 1, 0, 1);
        x.road(1, 2, 0, 1);
        x.road(2, 0, 0, 1);
        x.tale(0, 0, 0);
        String[] texts = {"b", "(b+1)%2", "(b+1)%3", "(b+1)%4", "(b+1)%5", "(b+1)%6", "b+1"};
        int[] due = {2, 2, 3, 4, 5, Due.NONE, Due.NONE};
        for (int i = 0; i < texts.length; i++) {
            Due.is("text(0)", Due.text(x, 0, texts[i]), 1);
            Due.is("round(0) by " + texts[i], x.round(0), due[i]);
        }
        x.road(0, 1, 0, 0);
        Due.is("text(0)", Due.text(x, 0, "(b+1)%5"), 1);
        Due.is("round(0): five STEPS end elsewhere", x.round(0), Due.NONE);
        Due.is("text(0)", Due.text(x, 0, "b+64"), 1);
        Due.is("round(0): 256, its lowest eight bits", x.round(0), 4);
    }

    private static void own() {
        Sentence.ofTerms("TALES whose MARKS are in less than three bits unlike those of a told one, as a set (it left out)");
        BelievedByYard x = Due.withPlaces(0);
        x.tale(0, 255, 0);
        Due.is("own(0) alone", x.own(0), 0);
        int[] marks = {255, 254, 63, 31, 0, 126};
        for (int v : marks) {
            x.tale(0, v, 0);
        }
        Due.is("own(0): 255, 254, 63, 126", x.own(0), 2 + 4 + 8 + 64);
        Due.is("own(1)", x.own(1), 1 + 4 + 8 + 64);
        Due.is("own(4): 63", x.own(4), 8);
        Due.is("own(5): none", x.own(5), 0);
        Due.is("own(6): 255, 255, 254, 63", x.own(6), 1 + 2 + 4 + 8);
        for (int i = 0; i < 7; i++) {
            x.change(i, 0, 9);
        }
        Due.is("own(6): all others", x.own(6), 63);
        Due.is("own(0): all others", x.own(0), 126);
    }

    private static void odds() {
        Sentence.ofTerms("all PLACES just as likely: a fraction in lowest terms (0 is 0 by 1)");
        int[][] due = {{0, 1}, {1, 6}, {1, 3}, {1, 2}, {2, 3}, {5, 6}, {1, 1}};
        BelievedByYard x = Due.withPlaces(1, 2, 3, 4, 5, 6);
        x.tale(0, 0, 0);
        for (int yards = 0; yards <= 6; yards++) {
            x.change(0, 1, yards);
            Due.is("odds(0, 0) of " + yards + " in 6", x.odds(0, 0), due[yards][0]);
            Due.is("odds(0, 1) of " + yards + " in 6", x.odds(0, 1), due[yards][1]);
        }
        x.place(7);
        Due.is("odds(0, 0) of 6 in 7", x.odds(0, 0), 6);
        Due.is("odds(0, 1) of 6 in 7", x.odds(0, 1), 7);
        x = Due.withPlaces(1);
        x.tale(0, 0, 0);
        Due.is("odds(0, 0) of 0 in 1", x.odds(0, 0), 0);
        Due.is("odds(0, 1) of 0 in 1", x.odds(0, 1), 1);
        x.doubt(0, 0);
        Due.is("odds(0, 0) of 1 in 1", x.odds(0, 0), 1);
        Due.is("odds(0, 1) of 1 in 1", x.odds(0, 1), 1);
    }

    private static void draws() {
        Sentence.ofTerms("z is told (1 at first)");
        Due.is("count(9)", new BelievedByYard().count(9), 1);
        Due.is("seed(5)", new BelievedByYard().seed(5), 1);
        Sentence.ofTerms("each makes it z * 1103515245 + 12345 (an int)");
        for (int z : new int[] {0, 1, -1, 2, MIN, MAX, 123456789}) {
            BelievedByYard x = new BelievedByYard();
            x.seed(z);
            x.loose(1);
            Due.is("count(9) behind a STEP, z being " + z, x.count(9), next(next(z)));
        }
        Sentence.ofTerms("Each: two draws");
        BelievedByYard x = new BelievedByYard();
        x.loose(60);
        int z = 1;
        for (int i = 0; i < 120; i++) {
            z = next(z);
        }
        Due.is("count(9) behind 60 STEPS", x.count(9), z);
        Sentence.ofTerms("else STEP alone is 1 more");
        Due.is("count(2)", x.count(2), 60);
        Due.is("loose(60), no TALE being there", x.loose(60), 0);
        x = Due.withPlaces(0, 0, 0, 0, 0, 0, 0);
        for (int i = 0; i < 7; i++) {
            x.tale(0, 0, i);
        }
        Due.is("loose(60), no ROAD being there", x.loose(60), 0);
        Due.is("count(2)", x.count(2), 60);
        Due.is("count(3)", x.count(3), 0);
    }

    private static int next(int z) {
        return (int) (z * 1103515245L + 12345);
    }

    /** What a draw gives, by longs alone: z as 32 bits without a sign, its lowest eight left out. */
    private static int drawn(int z) {
        return (int) ((z & 0xffffffffL) / 256 % 7);
    }

    private static void drawnTales() {
        Sentence.ofTerms("gives z >>> 8");
        int below = 0;
        for (int seed = -20; seed < 20; seed++) {
            int first = next(seed * 104729);
            below += first < 0 ? 1 : 0;
            goesAsDrawn(seed * 104729, 7, 7);
        }
        Due.isTrue("z is below 0 for some, not for all: " + below, below > 5 && below < 35);
        Sentence.ofTerms("if the TALE that is the first one's rest by 7 is there");
        for (int seed = 0; seed < 40; seed++) {
            goesAsDrawn(seed, 3, 7);
        }
        Sentence.ofTerms("and there is a ROAD from its PLACE to the one that is the second one's rest by 7");
        for (int seed = 0; seed < 40; seed++) {
            goesAsDrawn(seed, 7, 3);
        }
    }

    /** All TALES are AT 0, from where there are ROADS to all PLACES: one STEP by draws. */
    private static void goesAsDrawn(int seed, int tales, int places) {
        BelievedByYard x = new BelievedByYard();
        for (int i = 0; i < places; i++) {
            x.place(0);
            x.road(0, i, 0, 1);
        }
        for (int i = 0; i < tales; i++) {
            x.tale(0, 0, 0);
        }
        x.seed(seed);
        int tale = drawn(next(seed));
        int place = drawn(next(next(seed)));
        boolean goes = tale < tales && place > 0 && place < places;
        String draw = " draws " + tale + " and " + place + " of " + tales + " and " + places;
        Due.is("loose(1):" + draw, x.loose(1), goes ? 1 : 0);
        for (int i = 0; i < tales; i++) {
            Due.is("ofTale(" + i + ", 4):" + draw, x.ofTale(i, 4), goes && i == tale ? place : 0);
        }
        Due.is("count(2):" + draw, x.count(2), 1);
    }

    // VOICES

    private static void says(int km, int tale, int act, int x, int due) {
        BelievedByYard y = Due.withPlaces(0);
        for (int i = 0; i <= tale; i++) {
            y.tale(i == tale ? km : 0, 0, 0);
        }
        Due.is("voice(" + tale + ", " + act + ", " + x + ") of " + km, y.voice(tale, act, x), due);
    }

    private static void voices() {
        Sentence.ofTerms("VOICES of a TALE, with a number x (ints that go round)");
        says(0, 1, 0, MAX, MIN);
        says(0, 0, 0, MIN, MIN);
        says(0, 0, 1, MIN, 0);
        says(0, 0, 1, MAX, -2);
        says(9, 0, 2, MIN, MAX - 8);
        says(10, 0, 0, MAX, MAX - 2);
        says(10, 0, 0, MIN, MIN);
        says(30, 0, 2, MIN, MIN);
        says(50, 0, 1, MAX, -1);
        says(20, 0, 1, MIN, -1);
        Sentence.ofTerms("n is the number, m as told");
        for (int tale = 0; tale < 7; tale++) {
            says(9, tale, 0, 100, 100 + tale);
            says(tale, 6, 2, 100, 100 - tale);
        }
        Sentence.ofTerms("0 walks, 1 grows, 2 limps, 3 tells");
        says(3, 2, 0, 10, 12);
        says(3, 2, 1, 10, 24);
        says(3, 2, 2, 10, 7);
        says(3, 2, 3, 10, 24 ^ 7);
        says(3, 2, 4, 10, Due.BEYOND);
        says(3, 2, -1, 10, Due.BEYOND);
    }

    private static void bodies() {
        Sentence.ofTerms("TALE: 10 walks: x + n. 11 grows: walks(x) * 2. 12 limps: x - m. 13 tells: grows(x) ^ limps(x)");
        says(9, 6, 0, -6, 0);
        says(9, 6, 1, -6, 0);
        says(9, 6, 2, 9, 0);
        says(9, 6, 3, -21, 0);
        Sentence.ofTerms("LIMPING: 20 walks: super.walks(x) * 3");
        says(13, 2, 0, 10, 36);
        says(13, 2, 1, 10, 72);
        Sentence.ofTerms("FOREIGN: 30 grows: super.grows(x) - limps(1)");
        says(23, 2, 1, 10, 24 - (1 - 3));
        Sentence.ofTerms("SMALL: 40 limps: -super.limps(x)");
        says(33, 2, 2, 10, -7);
        Sentence.ofTerms("GOSPEL: 50 tells: super.tells(x) - walks(2)");
        says(43, 2, 3, 10, (72 ^ 7) - 12);
        Sentence.ofTerms("ELEPHANT: 60 grows: super.grows(x + 1)");
        says(53, 2, 1, 10, 26 - (1 - 3));
        Sentence.ofTerms("WIFE: 70 limps: super.limps(x) ^ n");
        says(63, 2, 2, 10, -7 ^ 2);
        says(63, 3, 2, 10, -6);
        says(63, 6, 2, 10, -1);
        Sentence.ofTerms("71 tells: grows(x) - super.tells(x)");
        says(63, 2, 3, 10, 24 - (24 ^ -7 ^ 2));
        Sentence.ofTerms("or of the next KIND above that has one");
        says(63, 2, 0, 10, 12);
        says(53, 2, 3, 10, 28 ^ 7);
        says(43, 2, 0, 10, 36);
        says(43, 2, 1, 10, 72);
        says(33, 2, 3, 10, 24 ^ -7);
        Sentence.ofTerms("super.walks(..) that from the KIND above the BODY's on");
        says(43, 0, 0, 1, 3);
        says(53, 0, 1, 1, 4 - (1 - 3));
        says(63, 0, 3, 1, 2 - (2 ^ 2));
    }

    private static void traced(BelievedByYard x, int km, int act, int... due) {
        x.become(0, km);
        x.voice(0, act, 1);
        Due.is("count(8), " + km + " by act " + act, x.count(8), due.length);
        for (int i = 0; i < due.length; i++) {
            Due.is("trace(" + i + "), " + km + " by act " + act, x.trace(i), due[i]);
        }
        Due.is("trace(" + due.length + "), " + km + " by act " + act, x.trace(due.length), Due.NONE);
    }

    private static void trace() {
        Sentence.ofTerms("THE TRACE: the numbers of BODIES of the latest voice()");
        BelievedByYard x = Worlds.pair(1, 0, 0);
        Due.is("count(8) ahead of any", x.count(8), 0);
        Due.is("trace(0) ahead of any", x.trace(0), Due.NONE);
        traced(x, 65, 3, 71, 11, 10, 13, 11, 10, 70, 40, 12);
        traced(x, 0, 0, 10);
        traced(x, 19, 0, 20, 10);
        Sentence.ofTerms("as they began (what stands left is worked out first)");
        traced(x, 0, 3, 13, 11, 10, 12);
        traced(x, 20, 1, 30, 11, 10, 12);
        traced(x, 40, 3, 50, 13, 11, 20, 10, 12, 20, 10);
        traced(x, 50, 3, 13, 60, 30, 11, 10, 12, 12);
        traced(x, 60, 2, 70, 40, 12);
        Sentence.ofTerms("the first 40");
        int most = 0;
        for (int kind = 0; kind <= 6; kind++) {
            for (int act = 0; act <= 3; act++) {
                x.become(0, kind * 10);
                x.voice(0, act, 1);
                most = Math.max(most, x.count(8));
            }
        }
        Due.is("count(8) of the longest", most, 9);
        Due.is("trace(39)", x.trace(39), Due.NONE);
        Due.is("trace(40)", x.trace(40), Due.NONE);
    }
}
