import java.util.Arrays;

/** The sentences of the promises 1 to 26 that name a boundary case, a test each, on both sides of it. */
final class PromisesTest {
    private static final int MIN = Integer.MIN_VALUE;
    private static final int MAX = Integer.MAX_VALUE;

    public static void main(String[] args) {
        newObject();
        placeAndDoubt();
        ofPlace();
        roadAndBetween();
        taleAndItsParts();
        changeBecomeAs();
        feed();
        text();
        law();
        go();
        loose();
        reachAndCheap();
        canAndMarked();
        from();
        bestAndLate();
        roundOwnOdds();
        Due.end();
    }

    private static void newObject() {
        Sentence.ofPromise(1, "All as at first; no PLACES, TALES.");
        BelievedByYard before = Worlds.pair(5, 0, 0);
        before.seed(9);
        BelievedByYard x = new BelievedByYard();
        for (int what = 0; what <= 8; what++) {
            Due.is("count(" + what + ")", x.count(what), 0);
        }
        Due.is("count(9)", x.count(9), 1);
        for (int k = 1; k <= 5; k++) {
            Due.is("told(" + k + ")", x.told(k), 0);
        }
        Due.is("law(0, 8, 9, 1)", x.law(0, 8, 9, 1), 17);
        Due.is("law(1, 0, 0, 0)", x.law(1, 0, 0, 0), 1);
        Due.is("ofPlace(0, 0)", x.ofPlace(0, 0), Due.BEYOND);
        Due.is("ofTale(0, 0)", x.ofTale(0, 0), Due.BEYOND);
        Due.is("trace(0)", x.trace(0), Due.NONE);
        Due.is("restore()", x.restore(), Due.NONE);
        Due.is("image()", x.image(), 1);
        Due.is("another object's count(0)", before.count(0), 2);
    }

    private static void placeAndDoubt() {
        Sentence.ofPromise(2, "A PLACE: its number. BEYOND. FULL.");
        BelievedByYard x = new BelievedByYard();
        Due.is("place(100)", x.place(100), Due.BEYOND);
        Due.is("place(-1)", x.place(-1), Due.BEYOND);
        for (int i = 0; i < 7; i++) {
            Due.is("place(" + (99 - i) + ")", x.place(99 - i), i);
        }
        Due.is("place(0), the eighth", x.place(0), Due.FULL);
        Due.is("ofPlace(0, 0)", x.ofPlace(0, 0), 99);
        Due.is("ofPlace(6, 0)", x.ofPlace(6, 0), 93);
        Sentence.ofPromise(3, "DOUBT of a PLACE becomes v: what it was. BEYOND.");
        Due.is("doubt(6, 0)", x.doubt(6, 0), 93);
        Due.is("doubt(6, 99)", x.doubt(6, 99), 0);
        Due.is("doubt(6, 100)", x.doubt(6, 100), Due.BEYOND);
        Due.is("doubt(6, -1)", x.doubt(6, -1), Due.BEYOND);
        Due.is("doubt(7, 5)", x.doubt(7, 5), Due.BEYOND);
        Due.is("doubt(-1, 5)", x.doubt(-1, 5), Due.BEYOND);
        Due.is("doubt(6, 99) again", x.doubt(6, 99), 99);
        Due.is("ofPlace(5, 0): the next one stays", x.ofPlace(5, 0), 94);
    }

    private static void ofPlace() {
        Sentence.ofPromise(4, "DOUBT (what 0) of a PLACE, TALES AT it as a set (1), FAME (2). BEYOND.");
        BelievedByYard x = Due.withPlaces(9, 0);
        Due.is("ofPlace(0, 1), no TALE being there", x.ofPlace(0, 1), 0);
        Due.is("ofPlace(0, 2), no TALE being there", x.ofPlace(0, 2), 0);
        for (int i = 0; i < 7; i++) {
            x.tale(0, 0, 0);
        }
        Due.is("ofPlace(0, 0)", x.ofPlace(0, 0), 9);
        Due.is("ofPlace(0, 1): all seven", x.ofPlace(0, 1), 127);
        Due.is("ofPlace(0, 2): none is BELIEVED", x.ofPlace(0, 2), 0);
        Due.is("ofPlace(1, 1): none", x.ofPlace(1, 1), 0);
        x.change(6, 2, 1);
        Due.is("ofPlace(1, 1): the last", x.ofPlace(1, 1), 64);
        Due.is("ofPlace(1, 2)", x.ofPlace(1, 2), 1);
        Due.is("ofPlace(0, 1): the others", x.ofPlace(0, 1), 63);
        Due.is("ofPlace(0, 3)", x.ofPlace(0, 3), Due.BEYOND);
        Due.is("ofPlace(0, -1)", x.ofPlace(0, -1), Due.BEYOND);
        Due.is("ofPlace(2, 0)", x.ofPlace(2, 0), Due.BEYOND);
        Due.is("ofPlace(-1, 0)", x.ofPlace(-1, 0), Due.BEYOND);
    }

    private static void roadAndBetween() {
        Sentence.ofPromise(5, "YARDS (what 0; 0: there is no ROAD)");
        BelievedByYard x = Worlds.pair(1, 0, 0);
        x.place(0);
        Due.is("road(0, 1, 0, 0)", x.road(0, 1, 0, 0), 1);
        Due.is("go(0, 1)", x.go(0, 1), Due.STATE);
        Due.is("can(0, 1)", x.can(0, 1), 0);
        Due.is("road(0, 1, 0, 0) again", x.road(0, 1, 0, 0), 0);
        Due.is("road(0, 1, 0, 99)", x.road(0, 1, 0, 99), 0);
        Due.is("go(0, 1)", x.go(0, 1), 1);
        Sentence.ofPromise(5, "become v: what they were (TOLL is kept where there is none)");
        Due.is("road(1, 2, 1, 8), no ROAD being there", x.road(1, 2, 1, 8), 0);
        Due.is("between(2, 1, 1)", x.between(2, 1, 1), 8);
        Due.is("between(2, 1, 0)", x.between(2, 1, 0), 0);
        Due.is("road(2, 1, 0, 5)", x.road(2, 1, 0, 5), 0);
        Due.is("between(1, 2, 1): TOLL is as told ahead of it", x.between(1, 2, 1), 8);
        Due.is("road(1, 2, 0, 0)", x.road(1, 2, 0, 0), 5);
        Due.is("between(1, 2, 1): TOLL is kept", x.between(1, 2, 1), 8);
        Due.is("road(1, 2, 1, 0)", x.road(1, 2, 1, 0), 8);
        Due.is("road(1, 2, 1, 9)", x.road(1, 2, 1, 9), 0);
        Due.is("between(0, 1, 1): another ROAD's stays", x.between(0, 1, 1), 0);
        Sentence.ofPromise(5, "BEYOND: also one and the same.");
        Due.is("road(1, 1, 0, 5)", x.road(1, 1, 0, 5), Due.BEYOND);
        Due.is("road(1, 1, 0, 0)", x.road(1, 1, 0, 0), Due.BEYOND);
        Due.is("road(0, 3, 0, 5)", x.road(0, 3, 0, 5), Due.BEYOND);
        Due.is("road(-1, 0, 0, 5)", x.road(-1, 0, 0, 5), Due.BEYOND);
        Due.is("road(0, 1, 2, 5)", x.road(0, 1, 2, 5), Due.BEYOND);
        Due.is("road(0, 1, -1, 5)", x.road(0, 1, -1, 5), Due.BEYOND);
        Due.is("road(0, 1, 0, 100)", x.road(0, 1, 0, 100), Due.BEYOND);
        Due.is("road(0, 1, 0, -1)", x.road(0, 1, 0, -1), Due.BEYOND);
        Due.is("road(0, 1, 1, 10)", x.road(0, 1, 1, 10), Due.BEYOND);
        Due.is("road(0, 1, 1, -1)", x.road(0, 1, 1, -1), Due.BEYOND);
        Sentence.ofPromise(6, "BEYOND: also one and the same.");
        Due.is("between(0, 0, 0)", x.between(0, 0, 0), Due.BEYOND);
        Due.is("between(2, 2, 1)", x.between(2, 2, 1), Due.BEYOND);
        Due.is("between(0, 3, 0)", x.between(0, 3, 0), Due.BEYOND);
        Due.is("between(3, 0, 0)", x.between(3, 0, 0), Due.BEYOND);
        Due.is("between(-1, 0, 0)", x.between(-1, 0, 0), Due.BEYOND);
        Due.is("between(0, -1, 0)", x.between(0, -1, 0), Due.BEYOND);
        Due.is("between(0, 1, 2)", x.between(0, 1, 2), Due.BEYOND);
        Due.is("between(0, 1, -1)", x.between(0, 1, -1), Due.BEYOND);
        Due.is("between(2, 0, 0): there is none", x.between(2, 0, 0), 0);
    }

    private static void taleAndItsParts() {
        Sentence.ofPromise(7, "A TALE (km: 10 times the KIND, and m) with MARKS AT a PLACE: its number. BEYOND. FULL.");
        BelievedByYard x = new BelievedByYard();
        Due.is("tale(0, 0, 0), no PLACE being there", x.tale(0, 0, 0), Due.BEYOND);
        x.place(0);
        Due.is("tale(0, 0, 0)", x.tale(0, 0, 0), 0);
        Due.is("tale(69, 255, 0)", x.tale(69, 255, 0), 1);
        int[] due = {6, 9, 255, 0, 0, 0, 1};
        for (int what = 0; what < due.length; what++) {
            Due.is("ofTale(1, " + what + ")", x.ofTale(1, what), due[what]);
        }
        Due.is("tale(70, 0, 0)", x.tale(70, 0, 0), Due.BEYOND);
        Due.is("tale(-1, 0, 0)", x.tale(-1, 0, 0), Due.BEYOND);
        Due.is("tale(0, 256, 0)", x.tale(0, 256, 0), Due.BEYOND);
        Due.is("tale(0, -1, 0)", x.tale(0, -1, 0), Due.BEYOND);
        Due.is("tale(0, 0, 1)", x.tale(0, 0, 1), Due.BEYOND);
        Due.is("tale(0, 0, -1)", x.tale(0, 0, -1), Due.BEYOND);
        for (int i = 2; i < 7; i++) {
            Due.is("tale(" + (i * 10 + 9) + ", 5, 0)", x.tale(i * 10 + 9, 5, 0), i);
        }
        Due.is("tale(0, 0, 0), the eighth", x.tale(0, 0, 0), Due.FULL);
        Sentence.ofPromise(8, "6 whether BELIEVED. BEYOND.");
        x.doubt(0, 1);
        Due.is("ofTale(6, 6), a YARD lacking", x.ofTale(6, 6), 0);
        x.change(6, 1, 1);
        Due.is("ofTale(6, 6), with DOUBT", x.ofTale(6, 6), 1);
        Due.is("ofTale(6, 7)", x.ofTale(6, 7), Due.BEYOND);
        Due.is("ofTale(6, -1)", x.ofTale(6, -1), Due.BEYOND);
        Due.is("ofTale(7, 0)", x.ofTale(7, 0), Due.BEYOND);
        Due.is("ofTale(-1, 0)", x.ofTale(-1, 0), Due.BEYOND);
    }

    private static void changeBecomeAs() {
        Sentence.ofPromise(9, "MARKS (what 0), YARDS (1), AT (2), COSTS (3) of a TALE becomes v: what it was. BEYOND.");
        BelievedByYard x = Due.withPlaces(0, 0, 0);
        x.tale(35, 7, 1);
        int[] most = {255, 9999, 2, 9999};
        int[] first = {7, 0, 1, 0};
        for (int what = 0; what < 4; what++) {
            Due.is("change(0, " + what + ", most)", x.change(0, what, most[what]), first[what]);
            Due.is("change(0, " + what + ", 0)", x.change(0, what, 0), most[what]);
            Due.is("change(0, " + what + ", most + 1)", x.change(0, what, most[what] + 1), Due.BEYOND);
            Due.is("change(0, " + what + ", -1)", x.change(0, what, -1), Due.BEYOND);
            Due.is("change(0, " + what + ", most) again", x.change(0, what, most[what]), 0);
        }
        Due.is("change(0, 4, 0)", x.change(0, 4, 0), Due.BEYOND);
        Due.is("change(0, -1, 0)", x.change(0, -1, 0), Due.BEYOND);
        Due.is("change(1, 0, 0)", x.change(1, 0, 0), Due.BEYOND);
        Due.is("change(-1, 0, 0)", x.change(-1, 0, 0), Due.BEYOND);
        int[] due = {3, 5, 255, 9999, 2, 9999, 1};
        for (int what = 0; what < due.length; what++) {
            Due.is("ofTale(0, " + what + ")", x.ofTale(0, what), due[what]);
        }
        Sentence.ofPromise(10, "A TALE becomes one of a KIND, with m (km): the KIND that it was. BEYOND.");
        Due.is("become(0, 69)", x.become(0, 69), 3);
        Due.is("become(0, 70)", x.become(0, 70), Due.BEYOND);
        Due.is("become(0, -1)", x.become(0, -1), Due.BEYOND);
        Due.is("become(1, 0)", x.become(1, 0), Due.BEYOND);
        Due.is("become(-1, 0)", x.become(-1, 0), Due.BEYOND);
        Due.is("become(0, 0)", x.become(0, 0), 6);
        Due.is("become(0, 9)", x.become(0, 9), 0);
        Due.is("ofTale(0, 2): MARKS stay", x.ofTale(0, 2), 255);
        Due.is("ofTale(0, 3): YARDS stay", x.ofTale(0, 3), 9999);
        Sentence.ofPromise(11, "BEYOND. KIND: it isn't of that KIND, nor of one under it.");
        Due.is("as(0, 0)", x.as(0, 0), 9);
        Due.is("as(0, 1)", x.as(0, 1), Due.KIND);
        x.become(0, 40);
        Due.is("as(0, 4): its own", x.as(0, 4), 0);
        Due.is("as(0, 1): above it", x.as(0, 1), 0);
        Due.is("as(0, 0): two above it", x.as(0, 0), 0);
        Due.is("as(0, 2)", x.as(0, 2), Due.KIND);
        Due.is("as(0, 5)", x.as(0, 5), Due.KIND);
        x.become(0, 10);
        Due.is("as(0, 4): under it", x.as(0, 4), Due.KIND);
        Due.is("as(0, 7)", x.as(0, 7), Due.BEYOND);
        Due.is("as(0, -1)", x.as(0, -1), Due.BEYOND);
        Due.is("as(1, 7)", x.as(1, 7), Due.BEYOND);
    }

    private static void feed() {
        Sentence.ofPromise(12, "The n lowest bytes (1 .. 8) of a word, the lowest first, come to THE TAPE: how many there are.");
        BelievedByYard x = new BelievedByYard();
        Due.is("feed(.., 1), other bytes above it", x.feed(0xffffffffffffff62L, 1), 1);
        Due.is("text(0) of b", x.text(0), 1);
        Due.is("feed(.., 8), the highest byte ahead of the sign", x.feed(0x622b622b622b622bL, 8), 8);
        Due.is("text(0): + is the first", x.text(0), -10);
        Due.is("feed(.., 8)", x.feed(0x39392d622b622b62L, 8), 8);
        Due.is("text(0) of b+b+b-99", x.text(0), 1);
        Due.is("law(0, 40, 0, 0)", x.law(0, 40, 0, 0), 21);
        Due.is("feed(-1, 8): bytes of 255", x.feed(-1L, 8), 8);
        Due.is("feed(MIN, 8)", x.feed(Long.MIN_VALUE, 8), 16);
        Sentence.ofPromise(12, "BEYOND. FULL.");
        for (int n : new int[] {0, 9, -1, MIN, MAX}) {
            Due.is("feed(98, " + n + ")", x.feed(98, n), Due.BEYOND);
        }
        for (int i = 3; i <= 6; i++) {
            Due.is("feed(0, 8)", x.feed(0, 8), 8 * i);
        }
        Due.is("feed(0, 3): 51 bytes", x.feed(0, 3), Due.FULL);
        Due.is("count(6): none of them came", x.count(6), 48);
        Due.is("feed(0, 2): 50 bytes", x.feed(0, 2), 50);
        Due.is("feed(0, 1): 51 bytes", x.feed(0, 1), Due.FULL);
        x.text(0);
        Due.is("feed(98, 1): THE TAPE is empty again", x.feed(98, 1), 1);
    }

    private static void text() {
        Sentence.ofPromise(13, "THE TAPE, which is empty then, is the TEXT of a USE (0, 1), in place of one ahead: 1.");
        BelievedByYard x = new BelievedByYard();
        Due.is("text(0) of b*2", Due.text(x, 0, "b*2"), 1);
        Due.is("count(6)", x.count(6), 0);
        Due.is("text(1) of b=3", Due.text(x, 1, "b=3"), 1);
        Due.is("law(0, 3, 9, 9)", x.law(0, 3, 9, 9), 6);
        Due.is("law(1, 3, 9, 9)", x.law(1, 3, 9, 9), 1);
        Due.is("text(0) of 7", Due.text(x, 0, "7"), 1);
        Due.is("law(0, 3, 9, 9): in place of it", x.law(0, 3, 9, 9), 7);
        Due.is("law(1, 4, 9, 9): the other one stays", x.law(1, 4, 9, 9), 0);
        Sentence.ofPromise(13, "BEYOND (THE TAPE stays).");
        Due.feed(x, "b+8");
        Due.is("text(2)", x.text(2), Due.BEYOND);
        Due.is("text(-1)", x.text(-1), Due.BEYOND);
        Due.is("count(6)", x.count(6), 3);
        Due.is("text(0)", x.text(0), 1);
        Due.is("law(0, 1, 0, 0)", x.law(0, 1, 0, 0), 9);
        Due.is("text(2), THE TAPE being empty", x.text(2), Due.BEYOND);
        Sentence.ofPromise(13, "-10 less the FAULT (no ERROR; the one ahead stays; THE TAPE is empty, too).");
        Due.is("text(0) of nothing", x.text(0), -10);
        Due.is("text(0) of b+8?", Due.text(x, 0, "b+8?"), -13);
        Due.is("count(6)", x.count(6), 0);
        Due.is("law(0, 2, 0, 0)", x.law(0, 2, 0, 0), 10);
        char[] longest = new char[50];
        Arrays.fill(longest, '+');
        for (int i = 0; i < 50; i += 2) {
            longest[i] = 'b';
        }
        Due.is("text(1) of 50 bytes that end too early", Due.text(x, 1, new String(longest)), -60);
        Due.is("law(1, 3, 0, 0)", x.law(1, 3, 0, 0), 1);
        Due.is("law(1, 4, 0, 0)", x.law(1, 4, 0, 0), 0);
        Due.is("told(1): the two BEYOND alone, and the third", x.told(1), 3);
        Due.is("told(2)", x.told(2), 0);
        Due.is("told(3)", x.told(3), 0);
    }

    private static void law() {
        Sentence.ofPromise(14, "What a USE gives with its NAMES in order as a, b, c. BEYOND.");
        BelievedByYard x = new BelievedByYard();
        Due.text(x, 0, "b*100+y*10+p");
        Due.is("law(0, 1, 2, 3)", x.law(0, 1, 2, 3), 123);
        Due.is("law(0, -1, -2, -3)", x.law(0, -1, -2, -3), -123);
        Due.is("law(0, MAX, 0, 0)", x.law(0, MAX, 0, 0), -100);
        Due.text(x, 1, "b*100+d*10+m=123");
        Due.is("law(1, 1, 2, 3)", x.law(1, 1, 2, 3), 1);
        Due.is("law(1, 3, 2, 1)", x.law(1, 3, 2, 1), 0);
        Due.is("law(2, 1, 2, 3)", x.law(2, 1, 2, 3), Due.BEYOND);
        Due.is("law(-1, 1, 2, 3)", x.law(-1, 1, 2, 3), Due.BEYOND);
    }

    private static void go() {
        Sentence.ofPromise(15, "A TALE GOES to a PLACE: whether it is BELIEVED there. BEYOND.");
        BelievedByYard x = Worlds.pair(10, 0, 1);
        x.doubt(0, 20);
        x.doubt(1, 11);
        Due.is("go(0, 1), a YARD lacking", x.go(0, 1), 0);
        Due.is("go(0, 0), with DOUBT", x.go(0, 0), 1);
        Due.is("go(0, 2)", x.go(0, 2), Due.BEYOND);
        Due.is("go(0, -1)", x.go(0, -1), Due.BEYOND);
        Due.is("go(1, 0)", x.go(1, 0), Due.BEYOND);
        Due.is("go(-1, 0)", x.go(-1, 0), Due.BEYOND);
        Due.text(x, 1, "b<31");
        Due.is("go(0, 1): MARKS behind the ROAD are 31", x.go(0, 1), 0);
        Due.text(x, 1, "b=41");
        Due.is("go(0, 0): MARKS behind the ROAD are 41", x.go(0, 0), 1);
        Sentence.ofPromise(15, "STATE: there is no ROAD from its PLACE, or STEP is 9999.");
        x = Worlds.pair(10, 0, 1);
        x.place(0);
        x.road(1, 2, 0, 5);
        Due.is("go(0, 2)", x.go(0, 2), Due.STATE);
        Due.is("go(0, 0): to where it is", x.go(0, 0), Due.STATE);
        x = Worlds.atStep(9998);
        x.place(0);
        x.place(0);
        x.road(0, 1, 0, 5);
        x.tale(0, 0, 0);
        Due.is("go(0, 1) at 9998", x.go(0, 1), 1);
        Due.is("go(0, 0) at 9999", x.go(0, 0), Due.STATE);
        Due.is("ofTale(0, 4)", x.ofTale(0, 4), 1);
        Due.is("count(2)", x.count(2), 9999);
    }

    private static void loose() {
        Sentence.ofPromise(16, "n (1 to 60) STEPS by draws: how many TALES went. BEYOND.");
        BelievedByYard x = Worlds.pair(1, 0, 0);
        for (int n : new int[] {0, 61, -1, MIN, MAX}) {
            Due.is("loose(" + n + ")", x.loose(n), Due.BEYOND);
        }
        Due.is("count(2)", x.count(2), 0);
        int went = x.loose(60);
        Due.is("loose(60): YARDS tell how often it went", x.ofTale(0, 3), went);
        Due.is("count(2)", x.count(2), 60);
        went += x.loose(1);
        Due.is("loose(1)", x.ofTale(0, 3), went);
        Due.is("count(2)", x.count(2), 61);
        x = Worlds.net(1);
        for (int i = 0; i < 7; i++) {
            x.tale(0, 0, i);
        }
        went = x.loose(60);
        Due.is("loose(60): how often, not how many unlike TALES", x.count(3), went);
        Due.isTrue("more than seven went: " + went, went > 7);
        Sentence.ofPromise(16, "STATE: STEP would be above 9999.");
        x = Worlds.atStep(9939);
        Due.is("loose(60) up to 9999", x.loose(60), 0);
        Due.is("count(2)", x.count(2), 9999);
        x = Worlds.atStep(9940);
        int z = x.count(9);
        Due.is("loose(60) up to 10000", x.loose(60), Due.STATE);
        Due.is("count(2)", x.count(2), 9940);
        Due.is("count(9)", x.count(9), z);
        Due.is("loose(59) up to 9999", x.loose(59), 0);
        Due.is("loose(1) up to 10000", x.loose(1), Due.STATE);
    }

    private static void reachAndCheap() {
        Sentence.ofPromise(17, "BEYOND. NONE: not by 5.");
        BelievedByYard x = Worlds.chain();
        x.tale(0, 0, 0);
        Due.is("reach(0, 5, 0)", x.reach(0, 5, 0), 5);
        for (int what = 0; what <= 2; what++) {
            Due.is("reach(0, 6, " + what + ")", x.reach(0, 6, what), Due.NONE);
        }
        Due.is("reach(0, 7, 0)", x.reach(0, 7, 0), Due.BEYOND);
        Due.is("reach(0, -1, 0)", x.reach(0, -1, 0), Due.BEYOND);
        Due.is("reach(1, 0, 0)", x.reach(1, 0, 0), Due.BEYOND);
        Due.is("reach(-1, 0, 0)", x.reach(-1, 0, 0), Due.BEYOND);
        Due.is("reach(0, 0, 3)", x.reach(0, 0, 3), Due.BEYOND);
        Due.is("reach(0, 0, -1)", x.reach(0, 0, -1), Due.BEYOND);
        Sentence.ofPromise(18, "BEYOND. NONE: there is no way.");
        Due.is("cheap(0, 6, 0): by six", x.cheap(0, 6, 0), 0);
        Due.is("cheap(0, 6, 1): by six", x.cheap(0, 6, 1), 30);
        x.road(5, 6, 0, 0);
        Due.is("cheap(0, 6, 0)", x.cheap(0, 6, 0), Due.NONE);
        Due.is("cheap(0, 6, 1)", x.cheap(0, 6, 1), Due.NONE);
        Due.is("cheap(0, 5, 1)", x.cheap(0, 5, 1), 25);
        Due.is("cheap(0, 7, 0)", x.cheap(0, 7, 0), Due.BEYOND);
        Due.is("cheap(0, -1, 0)", x.cheap(0, -1, 0), Due.BEYOND);
        Due.is("cheap(1, 0, 0)", x.cheap(1, 0, 0), Due.BEYOND);
        Due.is("cheap(-1, 0, 0)", x.cheap(-1, 0, 0), Due.BEYOND);
        Due.is("cheap(0, 0, 2)", x.cheap(0, 0, 2), Due.BEYOND);
        Due.is("cheap(0, 0, -1)", x.cheap(0, 0, -1), Due.BEYOND);
    }

    private static void canAndMarked() {
        Sentence.ofPromise(19, "CAN. BEYOND.");
        BelievedByYard x = Worlds.pair(1, 0, 0);
        Due.is("can(0, 0)", x.can(0, 0), 1);
        Due.is("can(0, 60)", x.can(0, 60), 1);
        Due.is("can(0, 61)", x.can(0, 61), Due.BEYOND);
        Due.is("can(0, -1)", x.can(0, -1), Due.BEYOND);
        Due.is("can(1, 0)", x.can(1, 0), Due.BEYOND);
        Due.is("can(-1, 0)", x.can(-1, 0), Due.BEYOND);
        Sentence.ofPromise(20, "MARKED. BEYOND.");
        Due.is("marked(0, 0)", x.marked(0, 0), 1);
        Due.is("marked(0, 4)", x.marked(0, 4), 1);
        Due.is("marked(0, 5)", x.marked(0, 5), Due.BEYOND);
        Due.is("marked(0, -1)", x.marked(0, -1), Due.BEYOND);
        Due.is("marked(1, 0)", x.marked(1, 0), Due.BEYOND);
        Due.is("marked(-1, 0)", x.marked(-1, 0), Due.BEYOND);
    }

    private static void from() {
        Sentence.ofPromise(21, "NONE: the SHEET is missing, has no number or more than 5; (what 1) there is none.");
        BelievedByYard x = Worlds.pair(1, 30, 7);
        for (int what = 0; what <= 1; what++) {
            Due.is("from(2, 0, " + what + ") of a missing SHEET", x.from(2, 0, what), Due.NONE);
            Worlds.sheet(x, 0, 8);
            Due.is("from(0, 0, " + what + ") of no number", x.from(0, 0, what), Due.NONE);
            Worlds.sheet(x, 0, 8, 7);
            Due.is("from(0, 0, " + what + ") of one", x.from(0, 0, what), 1 - what);
            Worlds.sheet(x, 0, 8, 7, 7, 7, 7, 7);
            Due.is("from(0, 0, " + what + ") of five", x.from(0, 0, what), 1 - what);
            Worlds.sheet(x, 0, 8, 7, 7, 7, 7, 7, 7);
            Due.is("from(0, 0, " + what + ") of six", x.from(0, 0, what), Due.NONE);
            x.sheet(0, 8, 40);
            Due.is("from(0, 0, " + what + ") of forty", x.from(0, 0, what), Due.NONE);
            x.sheet(0, 0, 0);
            Due.is("from(0, 0, " + what + ") of one missing again", x.from(0, 0, what), Due.NONE);
        }
        Worlds.sheet(x, 0, 8, 7, 6);
        Due.is("from(0, 0, 0) of no ROW", x.from(0, 0, 0), 0);
        Due.is("from(0, 0, 1) of no ROW", x.from(0, 0, 1), Due.NONE);
        Due.is("told(2)", x.told(2), 11);
        Sentence.ofPromise(21, "FROM, by a SHEET: what 0 how many ROWS, 1 the least PLACE. BEYOND.");
        Due.is("from(4, 0, 0)", x.from(4, 0, 0), Due.BEYOND);
        Due.is("from(-1, 0, 0)", x.from(-1, 0, 0), Due.BEYOND);
        Due.is("from(0, 1, 0)", x.from(0, 1, 0), Due.BEYOND);
        Due.is("from(0, -1, 0)", x.from(0, -1, 0), Due.BEYOND);
        Due.is("from(0, 0, 2)", x.from(0, 0, 2), Due.BEYOND);
        Due.is("from(0, 0, -1)", x.from(0, 0, -1), Due.BEYOND);
    }

    private static void bestAndLate() {
        Sentence.ofPromise(22, "BEYOND. NONE: there are no PLACES.");
        BelievedByYard x = new BelievedByYard();
        Due.is("best(0)", x.best(0), Due.NONE);
        Due.is("best(1)", x.best(1), Due.NONE);
        Due.is("best(2)", x.best(2), Due.BEYOND);
        Due.is("best(-1)", x.best(-1), Due.BEYOND);
        x.place(99);
        Due.is("best(0) of one PLACE", x.best(0), 0);
        Due.is("best(1) of one PLACE", x.best(1), 0);
        for (int i = 1; i < 7; i++) {
            x.place(99 - i);
        }
        x.tale(0, 0, 0);
        x.change(0, 1, 93);
        Due.is("best(0): the last PLACE", x.best(0), 6);
        Due.is("best(2)", x.best(2), Due.BEYOND);
        Sentence.ofPromise(23, "LATE. BEYOND.");
        Due.is("late(0)", x.late(0), 6);
        x.change(0, 1, 99);
        Due.is("late(0) with DOUBT", x.late(0), 0);
        Due.is("late(1)", x.late(1), Due.BEYOND);
        Due.is("late(-1)", x.late(-1), Due.BEYOND);
    }

    private static void roundOwnOdds() {
        Sentence.ofPromise(24, "ROUND. BEYOND. NONE: not by 5.");
        BelievedByYard x = Worlds.pair(64, 0, 3);
        Due.is("round(0): 4 times 64 is 256", x.round(0), 4);
        x.road(0, 1, 0, 32);
        Due.is("round(0): 8 times 32", x.round(0), Due.NONE);
        Due.is("round(1)", x.round(1), Due.BEYOND);
        Due.is("round(-1)", x.round(-1), Due.BEYOND);
        Sentence.ofPromise(25, "OWN. BEYOND.");
        Due.is("own(0) alone", x.own(0), 0);
        x.tale(0, 0, 0);
        Due.is("own(0): two bits", x.own(0), 2);
        x.change(1, 0, 4);
        Due.is("own(0): three bits", x.own(0), 0);
        Due.is("own(2)", x.own(2), Due.BEYOND);
        Due.is("own(-1)", x.own(-1), Due.BEYOND);
        Sentence.ofPromise(26, "ODDS: part 0 above, 1 below the line. BEYOND.");
        x.doubt(1, 1);
        Due.is("odds(0, 0)", x.odds(0, 0), 1);
        Due.is("odds(0, 1)", x.odds(0, 1), 2);
        Due.is("odds(0, 2)", x.odds(0, 2), Due.BEYOND);
        Due.is("odds(0, -1)", x.odds(0, -1), Due.BEYOND);
        Due.is("odds(2, 0)", x.odds(2, 0), Due.BEYOND);
        Due.is("odds(-1, 0)", x.odds(-1, 0), Due.BEYOND);
    }
}
