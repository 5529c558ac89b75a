/** What the tests share: each call is named, with what it answered and what is due. */
final class Due {
    static final int LOW = -1000000000;
    static final int BEYOND = LOW - 1;
    static final int NONE = LOW - 2;
    static final int STATE = LOW - 3;
    static final int FULL = LOW - 4;
    static final int KIND = LOW - 5;

    private static int asked;
    private static int wrong;
    private static String about = "";

    private Due() {
    }

    /** What the calls from here on are about; it stands ahead of each that is wrong. */
    static void about(String what) {
        about = what + ": ";
    }

    static void is(String call, long got, long want) {
        asked++;
        if (got != want) {
            wrong++;
            System.out.println(about + call + " answered " + got + ", due is " + want);
        }
    }

    static void isTrue(String what, boolean holds) {
        is(what, holds ? 1 : 0, 1);
    }

    /** Brings a TEXT to THE TAPE. */
    static void feed(BelievedByYard x, String text) {
        for (int i = 0; i < text.length(); i++) {
            x.feed(text.charAt(i), 1);
        }
    }

    /** What text() answers for a TEXT. */
    static int text(BelievedByYard x, int use, String text) {
        feed(x, text);
        return x.text(use);
    }

    static BelievedByYard withPlaces(int... doubts) {
        BelievedByYard x = new BelievedByYard();
        for (int doubt : doubts) {
            x.place(doubt);
        }
        return x;
    }

    /** Ends the test: with exit code 1 if a call was wrong. */
    static void end() {
        System.out.println(asked + " answers, " + wrong + " of them wrong");
        if (wrong != 0 || asked == 0) {
            System.exit(1);
        }
    }
}
