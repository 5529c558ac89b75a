/** The sentences of the Terms (1, 2, 4) that name a boundary case, a test each, on both sides of it. */
final class TermsTest {
    private static final int MIN = Integer.MIN_VALUE;
    private static final int MAX = Integer.MAX_VALUE;

    public static void main(String[] args) {
        errors();
        quotients();
        places();
        roads();
        tales();
        partsOfTales();
        grows();
        walks();
        believed();
        goes();
        grammar();
        singles();
        values();
        faults();
        uses();
        sheets();
        Due.end();
    }

    private static void errors() {
        Sentence.ofTerms("ERRORS are answers below -1000000000: LOW is -1000000000");
        BelievedByYard x = new BelievedByYard();
        x.seed(-1000000000);
        Due.is("seed(0), z being LOW", x.seed(0), -1000000000);
        x.seed(-1000000001);
        Due.is("seed(0), z being any number", x.seed(0), -1000000001);
        for (int k = 1; k <= 5; k++) {
            Due.is("told(" + k + ")", x.told(k), 0);
        }
        Sentence.ofTerms("LOW - 1 BEYOND");
        Due.is("place(100)", new BelievedByYard().place(100), -1000000001);
        Sentence.ofTerms("LOW - 2 NONE");
        Due.is("restore()", new BelievedByYard().restore(), -1000000002);
        Sentence.ofTerms("LOW - 3 STATE");
        Due.is("sheet(0, 8, -1)", new BelievedByYard().sheet(0, 8, -1), -1000000003);
        Sentence.ofTerms("LOW - 4 FULL");
        Due.is("an eighth place(0)", Due.withPlaces(0, 0, 0, 0, 0, 0, 0).place(0), -1000000004);
        Sentence.ofTerms("LOW - 5 KIND");
        Due.is("as(0, 1) of a TALE", Worlds.pair(1, 0, 0).as(0, 1), -1000000005);
    }

    private static void quotients() {
        Sentence.ofTerms("Quotients are cut (toward 0)");
        law("b/y", 7, 2, 0, 3);
        law("b/y", -7, 2, 0, -3);
        law("b/y", 7, -2, 0, -3);
        law("b/y", -7, -2, 0, 3);
        law("b/y", -1, 2, 0, 0);
        Due.is("YARDS of LIMPING for 99", Worlds.gone(10, 0, 99, "").ofTale(0, 3), 49);
    }

    private static void places() {
        Sentence.ofTerms("PLACES 0, 1, .. (at most 7)");
        BelievedByYard x = new BelievedByYard();
        for (int i = 0; i < 7; i++) {
            Due.is("place(0), " + i + " being there", x.place(0), i);
        }
        Due.is("place(0), 7 being there", x.place(0), Due.FULL);
        Due.is("count(0)", x.count(0), 7);
        Due.is("ofPlace(6, 0)", x.ofPlace(6, 0), 0);
        Due.is("ofPlace(7, 0)", x.ofPlace(7, 0), Due.BEYOND);

        Sentence.ofTerms("each with a DOUBT (0 to 99)");
        x = new BelievedByYard();
        Due.is("place(0)", x.place(0), 0);
        Due.is("place(99)", x.place(99), 1);
        Due.is("ofPlace(0, 0)", x.ofPlace(0, 0), 0);
        Due.is("ofPlace(1, 0)", x.ofPlace(1, 0), 99);
        for (int v : new int[] {-1, 100, MIN, MAX}) {
            Due.is("place(" + v + ")", x.place(v), Due.BEYOND);
            Due.is("doubt(0, " + v + ")", x.doubt(0, v), Due.BEYOND);
        }
        Due.is("doubt(0, 99)", x.doubt(0, 99), 0);
        Due.is("doubt(0, 0)", x.doubt(0, 0), 99);
        Due.is("doubt(0, 0) again", x.doubt(0, 0), 0);
        Due.is("count(0)", x.count(0), 2);
    }

    private static void roads() {
        Sentence.ofTerms("Between two there may be a ROAD of y YARDS (1 to 99; both ways)");
        BelievedByYard x = Due.withPlaces(0, 0, 0);
        x.tale(0, 0, 0);
        Due.is("road(0, 1, 0, 1)", x.road(0, 1, 0, 1), 0);
        Due.is("go(0, 1) by one YARD", x.go(0, 1), 1);
        Due.is("road(1, 0, 0, 99)", x.road(1, 0, 0, 99), 1);
        Due.is("between(0, 1, 0)", x.between(0, 1, 0), 99);
        Due.is("between(1, 0, 0)", x.between(1, 0, 0), 99);
        Due.is("go(0, 0) the other way", x.go(0, 0), 1);
        Due.is("count(3)", x.count(3), 100);
        for (int v : new int[] {-1, 100, MIN, MAX}) {
            Due.is("road(0, 1, 0, " + v + ")", x.road(0, 1, 0, v), Due.BEYOND);
        }
        Due.is("between(0, 1, 0) after them", x.between(0, 1, 0), 99);

        Sentence.ofTerms("or none (at first)");
        x = Due.withPlaces(0, 0, 0, 0, 0, 0, 0);
        x.tale(0, 0, 0);
        for (int i = 0; i < 7; i++) {
            for (int k = 0; k < i; k++) {
                Due.is("between(" + i + ", " + k + ", 0)", x.between(i, k, 0), 0);
            }
            Due.is("go(0, " + i + ")", x.go(0, i), Due.STATE);
        }

        Sentence.ofTerms("with a TOLL (0 to 9; both ways; 0 at first)");
        x = Due.withPlaces(0, 0, 0);
        x.road(0, 1, 0, 5);
        x.tale(0, 0, 0);
        Due.is("between(0, 1, 1) at first", x.between(0, 1, 1), 0);
        Due.is("between(1, 2, 1) at first, no ROAD", x.between(1, 2, 1), 0);
        Due.is("road(0, 1, 1, 9)", x.road(0, 1, 1, 9), 0);
        Due.is("between(1, 0, 1)", x.between(1, 0, 1), 9);
        for (int v : new int[] {-1, 10, MIN, MAX}) {
            Due.is("road(0, 1, 1, " + v + ")", x.road(0, 1, 1, v), Due.BEYOND);
        }
        x.go(0, 1);
        x.go(0, 0);
        Due.is("count(4): COSTS both ways", x.count(4), 18);
        Due.is("road(1, 0, 1, 0)", x.road(1, 0, 1, 0), 9);
        Due.is("between(0, 1, 1)", x.between(0, 1, 1), 0);
    }

    private static void tales() {
        Sentence.ofTerms("TALES 0, 1, .. (at most 7)");
        BelievedByYard x = Due.withPlaces(0);
        for (int i = 0; i < 7; i++) {
            Due.is("tale(0, 0, 0), " + i + " being there", x.tale(0, 0, 0), i);
        }
        Due.is("tale(0, 0, 0), 7 being there", x.tale(0, 0, 0), Due.FULL);
        Due.is("count(1)", x.count(1), 7);
        Due.is("ofTale(6, 0)", x.ofTale(6, 0), 0);
        Due.is("ofTale(7, 0)", x.ofTale(7, 0), Due.BEYOND);

        Sentence.ofTerms("0 TALE; 1 LIMPING, 2 FOREIGN, 3 SMALL under TALE; 4 GOSPEL under LIMPING; "
            + "5 ELEPHANT under FOREIGN; 6 WIFE under SMALL");
        String[] is = {"1000000", "1100000", "1010000", "1001000", "1100100", "1010010", "1001001"};
        for (int kind = 0; kind <= 6; kind++) {
            x = Worlds.pair(1, kind * 10, 0);
            Due.is("ofTale(0, 0)", x.ofTale(0, 0), kind);
            for (int k = 0; k <= 6; k++) {
                int due = is[kind].charAt(k) == '1' ? 0 : Due.KIND;
                Due.is("as(0, " + k + ") of KIND " + kind, x.as(0, k), due);
            }
        }
        Due.is("tale(70, 0, 0)", x.tale(70, 0, 0), Due.BEYOND);
        Due.is("become(0, 70)", x.become(0, 70), Due.BEYOND);
        Due.is("as(0, 7)", x.as(0, 7), Due.BEYOND);

        Sentence.ofTerms("with a number m (0 to 9)");
        Due.is("ofTale(0, 1), km being 60", x.ofTale(0, 1), 0);
        Due.is("become(0, 69)", x.become(0, 69), 6);
        Due.is("ofTale(0, 1)", x.ofTale(0, 1), 9);
        Due.is("become(0, 9)", x.become(0, 9), 6);
        Due.is("ofTale(0, 0)", x.ofTale(0, 0), 0);
        Due.is("ofTale(0, 1)", x.ofTale(0, 1), 9);
        Due.is("become(0, 10)", x.become(0, 10), 0);
        Due.is("ofTale(0, 1)", x.ofTale(0, 1), 0);
    }

    private static void partsOfTales() {
        Sentence.ofTerms("MARKS (0 to 255: eight bits)");
        BelievedByYard x = Due.withPlaces(0, 0);
        Due.is("tale(0, 0, 0)", x.tale(0, 0, 0), 0);
        Due.is("tale(0, 255, 0)", x.tale(0, 255, 0), 1);
        Due.is("ofTale(0, 2)", x.ofTale(0, 2), 0);
        Due.is("ofTale(1, 2)", x.ofTale(1, 2), 255);
        for (int v : new int[] {-1, 256, MIN, MAX}) {
            Due.is("tale(0, " + v + ", 0)", x.tale(0, v, 0), Due.BEYOND);
        }
        held(x, 0, 255);
        Sentence.ofTerms("YARDS that it has walked (0 to 9999; 0 at first)");
        Due.is("ofTale(0, 3) at first", x.ofTale(0, 3), 0);
        held(x, 1, 9999);
        Sentence.ofTerms("AT a PLACE");
        held(x, 2, 1);
        Sentence.ofTerms("and COSTS (0 to 9999; 0 at first)");
        Due.is("ofTale(0, 5) at first", x.ofTale(0, 5), 0);
        held(x, 3, 9999);

        Sentence.ofTerms("STEP (0 to 9999; 0 at first)");
        Due.is("count(2) at first", new BelievedByYard().count(2), 0);
        BelievedByYard y = Worlds.atLastStep();
        Due.is("count(2)", y.count(2), 9999);
        Due.is("go(0, 1)", y.go(0, 1), Due.STATE);
        Due.is("loose(1)", y.loose(1), Due.STATE);
        Due.is("count(2) after them", y.count(2), 9999);
    }

    /** A part of TALE 0 that change() sets can be 0 and the most, and nothing below or above. */
    private static void held(BelievedByYard x, int what, int most) {
        Due.is("change(0, " + what + ", 0)", x.change(0, what, 0), 0);
        Due.is("change(0, " + what + ", " + most + ")", x.change(0, what, most), 0);
        for (int v : new int[] {-1, most + 1, MIN, MAX}) {
            Due.is("change(0, " + what + ", " + v + ")", x.change(0, what, v), Due.BEYOND);
        }
        Due.is("ofTale(0, " + (what + 2) + ")", x.ofTale(0, what + 2), most);
        Due.is("change(0, " + what + ", 0) back", x.change(0, what, 0), most);
    }

    private static void grows() {
        Sentence.ofTerms("the lowest eight bits of what is told");
        grown(0, "", 255, 1, 0);
        grown(0, "", 254, 1, 255);
        grown(0, "", 255, 99, 98);
        grown(0, "0-1", 7, 1, 255);
        grown(0, "0-256", 7, 1, 0);
        grown(0, "256", 7, 1, 0);
        grown(0, "4096*4096*128+200", 7, 1, 200);
        Sentence.ofTerms("TALE: what the TEXT gives");
        grown(0, "b*2+1", 100, 8, 201);
        Sentence.ofTerms("LIMPING: that, with bit 0 too");
        grown(10, "b", 254, 8, 255);
        grown(10, "b", 255, 8, 255);
        grown(10, "256", 9, 8, 1);
        grown(10, "0", 9, 8, 1);
        Sentence.ofTerms("FOREIGN: that, the bit that is the rest of y by 8 being turned");
        grown(20, "0", 9, 1, 2);
        grown(20, "0", 9, 7, 128);
        grown(20, "0", 9, 8, 1);
        grown(20, "0", 9, 15, 128);
        grown(20, "0", 9, 16, 1);
        grown(20, "0", 9, 99, 8);
        grown(20, "255", 9, 7, 127);
        grown(20, "255", 9, 8, 254);
        grown(20, "256", 9, 3, 8);
        Sentence.ofTerms("SMALL: b, as it was");
        grown(30, "b+1", 255, 8, 255);
        grown(30, "b+1", 0, 8, 0);
        Sentence.ofTerms("GOSPEL: as LIMPING, with bit 7 too");
        grown(40, "0", 9, 8, 129);
        grown(40, "126", 9, 8, 255);
        grown(40, "255", 9, 8, 255);
        Sentence.ofTerms("ELEPHANT: as FOREIGN, all eight bits turned then");
        grown(50, "0", 9, 8, 254);
        grown(50, "0", 9, 7, 127);
        grown(50, "255", 9, 7, 128);
        grown(50, "254", 9, 8, 0);
        grown(50, "1", 9, 8, 255);
        Sentence.ofTerms("WIFE: as SMALL, but without bit 0");
        grown(60, "b+1", 255, 8, 254);
        grown(60, "b+1", 254, 8, 254);
        grown(60, "b+1", 1, 8, 0);
        grown(60, "b+1", 0, 8, 0);
    }

    private static void grown(int km, String text, int b, int y, int due) {
        String call = "MARKS of " + km + " by '" + text + "', " + b + " ahead, behind " + y;
        Due.is(call, Worlds.gone(km, b, y, text).ofTale(0, 2), due);
    }

    private static void walks() {
        Sentence.ofTerms("TALE: y.");
        walked(9, 1, 1);
        walked(9, 99, 99);
        Sentence.ofTerms("LIMPING: half of that (cut), 1 at least");
        walked(19, 1, 1);
        walked(19, 2, 1);
        walked(19, 3, 1);
        walked(19, 4, 2);
        walked(19, 99, 49);
        Sentence.ofTerms("FOREIGN: three times that");
        walked(29, 1, 3);
        walked(29, 99, 297);
        Sentence.ofTerms("SMALL: as TALE");
        walked(39, 1, 1);
        walked(39, 99, 99);
        Sentence.ofTerms("GOSPEL: twice a LIMPING's");
        walked(49, 1, 2);
        walked(49, 3, 2);
        walked(49, 99, 98);
        Sentence.ofTerms("ELEPHANT: as FOREIGN, and m");
        walked(50, 1, 3);
        walked(59, 1, 12);
        walked(59, 99, 306);
        Sentence.ofTerms("WIFE: as SMALL, less m, 0 at least");
        walked(60, 1, 1);
        walked(69, 10, 1);
        walked(69, 9, 0);
        walked(69, 8, 0);
        walked(69, 1, 0);
    }

    private static void walked(int km, int y, int due) {
        Due.is("YARDS of " + km + " for " + y, Worlds.gone(km, 0, y, "").ofTale(0, 3), due);
    }

    private static void believed() {
        Sentence.ofTerms("if its YARDS are DOUBT of it or more");
        BelievedByYard x = Due.withPlaces(0, 99);
        x.tale(0, 0, 0);
        Due.is("ofTale(0, 6), 0 YARDS for a DOUBT of 0", x.ofTale(0, 6), 1);
        x.change(0, 2, 1);
        int[][] rows = {{0, 0}, {98, 0}, {99, 1}, {100, 1}, {9999, 1}};
        for (int[] r : rows) {
            x.change(0, 1, r[0]);
            Due.is("ofTale(0, 6), " + r[0] + " YARDS for a DOUBT of 99", x.ofTale(0, 6), r[1]);
        }
        Sentence.ofTerms("and the other TEXT doesn't give 0");
        Due.text(x, 1, "0");
        Due.is("ofTale(0, 6), the TEXT gives 0", x.ofTale(0, 6), 0);
        Due.text(x, 1, "1");
        Due.is("ofTale(0, 6), the TEXT gives 1", x.ofTale(0, 6), 1);
        x.change(0, 1, 98);
        Due.is("ofTale(0, 6), the TEXT gives 1, YARDS lack", x.ofTale(0, 6), 0);
        x.change(0, 1, 99);
        Due.text(x, 0, "0");
        Due.is("ofTale(0, 6), the first TEXT gives 0", x.ofTale(0, 6), 1);
    }

    private static void goes() {
        Sentence.ofTerms("A TALE GOES by a ROAD from its PLACE");
        BelievedByYard x = Worlds.pair(1, 0, 0);
        x.place(0);
        x.road(1, 2, 0, 1);
        Due.is("go(0, 2), the ROAD being from 1", x.go(0, 2), Due.STATE);
        Sentence.ofTerms("YARDS are more by WALKS (held)");
        x = Worlds.pair(10, 0, 0);
        x.change(0, 1, 9988);
        int[] yards = {9998, 9999, 9999};
        for (int i = 0; i < yards.length; i++) {
            x.go(0, 1 - i % 2);
            Due.is("ofTale(0, 3) behind " + (i + 1), x.ofTale(0, 3), yards[i]);
        }
        x = Worlds.pair(99, 59, 0);
        x.change(0, 1, 9999);
        x.go(0, 1);
        Due.is("ofTale(0, 3), 306 more than 9999", x.ofTale(0, 3), 9999);
        Sentence.ofTerms("COSTS by TOLL (held)");
        x = Worlds.pair(1, 0, 0);
        x.road(0, 1, 1, 9);
        x.change(0, 3, 9981);
        int[] costs = {9990, 9999, 9999};
        for (int i = 0; i < costs.length; i++) {
            x.go(0, 1 - i % 2);
            Due.is("ofTale(0, 5) behind " + (i + 1), x.ofTale(0, 5), costs[i]);
        }
        x.change(0, 3, 9998);
        x.go(0, 0);
        Due.is("ofTale(0, 5), 9 more than 9998", x.ofTale(0, 5), 9999);
        Sentence.ofTerms("it is AT the other PLACE. STEP is 1 more");
        Due.is("ofTale(0, 4) behind four", x.ofTale(0, 4), 0);
        Due.is("count(2) behind four", x.count(2), 4);
    }

    // TEXTS

    private static void law(String text, int a, int b, int c, int due) {
        BelievedByYard x = new BelievedByYard();
        Due.is("text(0) of " + text, Due.text(x, 0, text), 1);
        Due.is(text + " of " + a + ", " + b + ", " + c, x.law(0, a, b, c), due);
    }

    private static void stands(int use, String text) {
        Due.is("text(" + use + ") of " + text, Due.text(new BelievedByYard(), use, text), 1);
    }

    private static void fault(int use, String text, int place) {
        Due.is("text(" + use + ") of " + text, Due.text(new BelievedByYard(), use, text), -10 - place);
    }

    private static void grammar() {
        Sentence.ofTerms("TEXTS are read from THE TAPE (bytes, at most 50)");
        stands(0, "0+1+2+3+4+5+6+7+8+9+0+1+2+3+4+5+6+7+8+9+0+1+2+3+45");
        BelievedByYard x = new BelievedByYard();
        Due.feed(x, "1+1+1+1+1+1+1+1+1+1+1+1+1+1+1+1+1+1+1+1+1+1+1+1+23");
        Due.is("a byte more", x.feed('4', 1), Due.FULL);
        Due.is("text(0) of the fifty", x.text(0), 1);
        Due.is("law(0, 0, 0, 0)", x.law(0, 0, 0, 0), 47);
        for (int sign : new int[] {0, 127, 128, 226, 255}) {
            x.feed('b' | sign << 8, 2);
            Due.is("text(0) of b and byte " + sign, x.text(0), -11);
        }
        Sentence.ofTerms("T: A { | A }");
        fault(0, "|b", 0);
        fault(0, "b|", 2);
        fault(0, "b||y", 2);
        stands(0, "b|y|p|b");
        law("b|y&p", 1, 0, 0, 1);
        Sentence.ofTerms("A: B { & B }");
        fault(0, "&b", 0);
        fault(0, "b&", 2);
        fault(0, "b&&y", 2);
        stands(0, "b&y&p&b");
        law("b&y<p", 1, 2, 3, 1);
        law("b&y<p", 0, 2, 3, 0);
        Sentence.ofTerms("B: S, or S < S, S = S, S > S");
        for (char a : "<=>".toCharArray()) {
            stands(0, "b" + a + "y");
            for (char c : "<=>".toCharArray()) {
                fault(0, "b" + a + "y" + c + "p", 3);
                stands(0, "(b" + a + "y)" + c + "p");
                stands(0, "b" + a + "y&y" + c + "p");
            }
        }
        law("b+y<p", 1, 1, 3, 1);
        Sentence.ofTerms("S: P { + P, - P }");
        fault(0, "-b", 0);
        fault(0, "+b", 0);
        fault(0, "b+-y", 2);
        law("b-y-p", 9, 3, 2, 4);
        law("b-y+p", 9, 3, 2, 8);
        Sentence.ofTerms("P: Q { * Q, / Q, % Q }");
        fault(0, "*b", 0);
        fault(0, "b*/y", 2);
        law("b/y*p", 9, 2, 5, 20);
        law("b%y*p", 9, 5, 3, 12);
        law("b-y*p", 9, 2, 3, 3);
    }

    private static void singles() {
        Sentence.ofTerms("a NUMBER of 1 to 4 digits");
        stands(0, "0");
        law("9999", 1, 1, 1, 9999);
        law("0009", 1, 1, 1, 9);
        fault(0, "10000", 4);
        fault(0, "00000", 4);
        fault(0, "b+12345", 6);
        Sentence.ofTerms("a NAME");
        fault(0, "by", 1);
        fault(0, "B", 0);
        fault(0, "b1", 1);
        fault(0, "1b", 1);
        Sentence.ofTerms("! Q");
        fault(0, "!", 1);
        fault(0, "b!", 1);
        fault(0, "!+b", 1);
        law("!b+y", 0, 5, 0, 6);
        Sentence.ofTerms("( T )");
        fault(0, "()", 1);
        fault(0, ")", 0);
        fault(0, "(b", 2);
        fault(0, "b)", 1);
        fault(0, "(b))", 3);
        law("(b|y)+p", 0, 7, 5, 6);
        Sentence.ofTerms("No blanks");
        fault(0, " b", 0);
        fault(0, "b ", 1);
        fault(0, "b+ y", 2);
        fault(0, "1 2", 1);
        Sentence.ofTerms("At most 5 of ! and ( are open at once");
        stands(0, "!!!!!b");
        fault(0, "!!!!!!b", 5);
        fault(0, "!!!!!(b)", 5);
        stands(0, "(((((b)))))");
        fault(0, "((((((b))))))", 5);
        fault(0, "(((((!b)))))", 5);
        stands(0, "!(!(!b))");
        fault(0, "!(!(!(b)))", 5);
        stands(0, "!!!!!b*!!!!!b|(((((b)))))");
        stands(0, "((((!b+!y)*!p)))");
        stands(0, "(!!!!b+(((!b))))");
        fault(0, "(!!!!b+((((!b)))))", 11);
    }

    private static void values() {
        Sentence.ofTerms("Ints that wrap");
        law("b+y", MAX, 1, 0, MIN);
        law("b-y", MIN, 1, 0, MAX);
        law("b*y", MIN, -1, 0, MIN);
        law("b*y", 65536, 65536, 0, 0);
        law("b*y", MAX, 2, 0, -2);
        law("9999*9999*9999", 0, 0, 0, (int) (9999L * 9999 * 9999));
        Sentence.ofTerms("/ cut");
        law("b/y", -9, 2, 0, -4);
        law("b/y", MIN, -1, 0, MIN);
        law("b/y", MIN, MAX, 0, -1);
        law("b/y", MAX, MIN, 0, 0);
        Sentence.ofTerms("% the rest that it leaves");
        law("b%y", -9, 2, 0, -1);
        law("b%y", 9, -2, 0, 1);
        law("b%y", MIN, -1, 0, 0);
        law("b%y", MIN, MAX, 0, -1);
        law("b%y", MAX, MIN, 0, MAX);
        Sentence.ofTerms("both by 0 are 0");
        law("b/y", 9, 0, 0, 0);
        law("b/y", MIN, 0, 0, 0);
        law("b%y", 9, 0, 0, 0);
        law("b%y", MIN, 0, 0, 0);
        law("b/(y-y)+p", 9, 5, 3, 3);
        Sentence.ofTerms("| & < = > ! are 1 or 0, what is not 0 being true");
        for (int v : new int[] {1, 2, -1, 256, MIN, MAX}) {
            law("b|y", v, 0, 0, 1);
            law("b|y", 0, v, 0, 1);
            law("b|y", v, v, 0, 1);
            law("b&y", v, v, 0, 1);
            law("b&y", v, 0, 0, 0);
            law("b&y", 0, v, 0, 0);
            law("!b", v, 0, 0, 0);
            law("!!b", v, 0, 0, 1);
        }
        law("b|y", 0, 0, 0, 0);
        law("b&y", 0, 0, 0, 0);
        law("b&y", 1, 2, 0, 1);
        law("!b", 0, 0, 0, 1);
        int[][] rows = {{1, 2}, {2, 2}, {2, 1}, {MIN, MAX}, {MAX, MIN}, {MIN, 0}, {-1, 0}, {MIN, MIN}, {MAX, MAX}};
        for (int[] r : rows) {
            law("b<y", r[0], r[1], 0, Integer.compare(r[0], r[1]) < 0 ? 1 : 0);
            law("b=y", r[0], r[1], 0, Integer.compare(r[0], r[1]) == 0 ? 1 : 0);
            law("b>y", r[0], r[1], 0, Integer.compare(r[0], r[1]) > 0 ? 1 : 0);
        }
        Sentence.ofTerms("all is worked out");
        law("1|b/y", 5, 0, 0, 1);
        law("0&b%y", 5, 0, 0, 0);
    }

    private static void faults() {
        Sentence.ofTerms("FAULT: the place of the first byte with which no TEXT goes on");
        fault(0, "?", 0);
        fault(0, "b+?", 2);
        fault(0, "b+y?", 3);
        fault(0, "b+y+p+12345", 10);
        fault(0, "b?+?", 1);
        fault(0, "(b+y", 4);
        fault(0, "(b+y*]", 5);
        String fortyEight = "1+1+1+1+1+1+1+1+1+1+1+1+1+1+1+1+1+1+1+1+1+1+1+1+";
        fault(0, fortyEight + "1?", 49);
        fault(0, fortyEight + "?1", 48);
        Sentence.ofTerms("how many there are, if it ends too early");
        fault(0, "", 0);
        fault(0, "b+", 2);
        fault(0, "(", 1);
        fault(0, "((b)", 4);
        fault(0, "b=", 2);
        fault(0, "b&!", 3);
        fault(0, fortyEight + "(1", 50);
    }

    private static void uses() {
        Sentence.ofTerms("0 GROWS, NAMES b MARKS, y YARDS of the ROAD, p the PLACE from which it goes");
        stands(0, "b+y+p");
        fault(0, "d", 0);
        fault(0, "m", 0);
        Due.is("MARKS by b*100+y*10+p", Worlds.gone(0, 1, 7, "b*100+y*10+p").ofTale(0, 2), 172);
        Sentence.ofTerms("any number; without a TEXT b+y");
        BelievedByYard x = new BelievedByYard();
        Due.is("law(0, MAX, 1, 5)", x.law(0, MAX, 1, 5), MIN);
        Due.is("law(0, -7, 3, 5)", x.law(0, -7, 3, 5), -4);
        Due.is("law(0, -1000000001, 0, 0)", x.law(0, -1000000001, 0, 0), -1000000001);
        law("b", MIN, 0, 0, MIN);
        law("b", MAX, 0, 0, MAX);
        Sentence.ofTerms("1 SOUND, NAMES b MARKS, d DOUBT, m m");
        stands(1, "b+d+m");
        fault(1, "y", 0);
        fault(1, "p", 0);
        x = Due.withPlaces(4);
        x.tale(3, 5, 0);
        x.change(0, 1, 4);
        Due.is("text(1)", Due.text(x, 1, "b*100+d*10+m=543"), 1);
        Due.is("ofTale(0, 6)", x.ofTale(0, 6), 1);
        Sentence.ofTerms("held within 0 to 1");
        Due.is("text(1)", Due.text(x, 1, "b"), 1);
        int[][] rows = {{MIN, 0}, {-1, 0}, {0, 0}, {1, 1}, {2, 1}, {MAX, 1}};
        for (int[] r : rows) {
            Due.is("law(1, " + r[0] + ", 0, 0)", x.law(1, r[0], 0, 0), r[1]);
        }
        Due.is("text(1)", Due.text(x, 1, "m-9"), 1);
        Due.is("ofTale(0, 6), the TEXT giving -6", x.ofTale(0, 6), 0);
        Due.is("text(1)", Due.text(x, 1, "m+9"), 1);
        Due.is("ofTale(0, 6), the TEXT giving 12", x.ofTale(0, 6), 1);
        Sentence.ofTerms("without a TEXT 1.");
        Due.is("law(1, 0, 0, 0)", new BelievedByYard().law(1, 0, 0, 0), 1);
        Due.is("law(1, MIN, MIN, MIN)", new BelievedByYard().law(1, MIN, MIN, MIN), 1);
    }

    private static void sheets() {
        Sentence.ofTerms("SHEETS 0 .. 3 are rows of 8, 16, 32 bits, at most 40 numbers");
        BelievedByYard x = new BelievedByYard();
        for (int bits : new int[] {8, 16, 32}) {
            Due.is("sheet(0, " + bits + ", 40)", x.sheet(0, bits, 40), 1);
            Due.is("sheet(3, " + bits + ", 40)", x.sheet(3, bits, 40), 1);
            Due.is("put(3, 39, 1)", x.put(3, 39, 1), 1);
            Due.is("put(3, 40, 1)", x.put(3, 40, 1), Due.BEYOND);
            Due.is("sheet(3, " + bits + ", 41)", x.sheet(3, bits, 41), Due.BEYOND);
            Due.is("sheet(3, " + bits + ", 0)", x.sheet(3, bits, 0), 1);
            Due.is("put(3, 0, 1)", x.put(3, 0, 1), Due.BEYOND);
            Due.is("sheet(4, " + bits + ", 1)", x.sheet(4, bits, 1), Due.BEYOND);
            Due.is("sheet(-1, " + bits + ", 1)", x.sheet(-1, bits, 1), Due.BEYOND);
        }
        for (int bits : new int[] {-8, -1, 1, 7, 9, 15, 17, 24, 31, 33, 64, 256 + 8, MIN, MAX}) {
            Due.is("sheet(0, " + bits + ", 1)", x.sheet(0, bits, 1), Due.BEYOND);
        }
        Sentence.ofTerms("or missing (as at first)");
        x = new BelievedByYard();
        for (int i = 0; i < 4; i++) {
            Due.is("marks(" + i + ")", x.marks(i), Due.NONE);
            Due.is("put(" + i + ", 0, 0)", x.put(i, 0, 0), Due.NONE);
        }
    }
}
