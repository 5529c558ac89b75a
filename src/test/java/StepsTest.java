/** Promises 15, 16: a TALE goes, and STEPS by draws. */
final class StepsTest {
    public static void main(String[] args) {
        marksThatGrow();
        yardsThatAreCounted();
        go();
        held();
        loose();
        lastStep();
        Due.end();
    }

    private static void marksThatGrow() {
        int[][] rows = { // km, b, y, MARKS then
            {0, 250, 10, 4}, {10, 250, 10, 5}, {10, 3, 4, 7}, {20, 250, 10, 0}, {20, 0, 8, 9}, {20, 0, 9, 11},
            {20, 1, 7, 136}, {30, 250, 10, 250}, {40, 2, 10, 141}, {40, 250, 10, 133}, {50, 250, 10, 255},
            {50, 0, 8, 246}, {60, 250, 10, 250}, {60, 251, 10, 250}, {39, 251, 10, 251},
        };
        for (int[] r : rows) {
            Due.is("MARKS of " + r[0] + " by " + r[1] + " behind " + r[2], Worlds.gone(r[0], r[1], r[2], "").ofTale(0, 2), r[3]);
        }
        String[] texts = {"b*3-y", "p", "y", "0-1", "300", "b+p*16"};
        int[] given = {300 - 12, 2, 12, -1, 300, 100 + 32};
        for (int i = 0; i < texts.length; i++) {
            int low = given[i] & 255;
            int turned = low ^ 16;
            int[] due = {low, low | 1, turned, 100, low | 129, 255 - turned, 100};
            for (int kind = 0; kind <= 6; kind++) {
                Due.is("MARKS of KIND " + kind + " by " + texts[i], Worlds.gone(kind * 10, 100, 12, texts[i]).ofTale(0, 2), due[kind]);
            }
        }
    }

    private static void yardsThatAreCounted() {
        int[][] rows = { // km, y, YARDS then
            {5, 30, 30}, {15, 31, 15}, {15, 30, 15}, {15, 1, 1}, {15, 2, 1}, {15, 3, 1}, {25, 33, 99}, {35, 30, 30},
            {45, 31, 30}, {45, 1, 2}, {45, 99, 98}, {55, 10, 35}, {50, 10, 30}, {65, 30, 25}, {69, 8, 0}, {69, 9, 0},
            {69, 10, 1},
        };
        for (int[] r : rows) {
            Due.is("YARDS of " + r[0] + " for " + r[1], Worlds.gone(r[0], 0, r[1], "").ofTale(0, 3), r[2]);
        }
    }

    private static void go() {
        BelievedByYard x = Due.withPlaces(0, 20, 8);
        x.road(0, 1, 0, 10);
        x.road(0, 1, 1, 3);
        x.road(1, 2, 0, 9);
        x.tale(0, 1, 0);
        Due.is("go(0, 2) without a ROAD", x.go(0, 2), Due.STATE);
        Due.is("go(0, 0) to where it is", x.go(0, 0), Due.STATE);
        Due.is("go(0, 3)", x.go(0, 3), Due.BEYOND);
        Due.is("go(0, -1)", x.go(0, -1), Due.BEYOND);
        Due.is("go(1, 1)", x.go(1, 1), Due.BEYOND);
        Due.is("go(-1, 1)", x.go(-1, 1), Due.BEYOND);
        Due.is("count(2) after ERRORS", x.count(2), 0);
        Due.is("go(0, 1): not believed", x.go(0, 1), 0);
        Due.is("go(0, 2): believed", x.go(0, 2), 1);
        Due.is("go(0, 1) back: believed now", x.go(0, 1), 1);
        Due.is("go(0, 0) back", x.go(0, 0), 1);
        int[] due = {0, 0, 39, 38, 0, 6, 1};
        for (int what = 0; what < due.length; what++) {
            Due.is("ofTale(0, " + what + ") behind four STEPS", x.ofTale(0, what), due[what]);
        }
        Due.is("count(2)", x.count(2), 4);
        Due.text(x, 1, "!(b=49)");
        Due.is("go(0, 1) by a TEXT", x.go(0, 1), 0);
        Due.is("ofTale(0, 4): it went all the same", x.ofTale(0, 4), 1);
    }

    private static void held() {
        BelievedByYard x = Due.withPlaces(0, 0);
        x.road(0, 1, 0, 99);
        x.road(0, 1, 1, 9);
        x.tale(20, 0, 0);
        x.change(0, 1, 9702);
        x.change(0, 3, 9990);
        x.go(0, 1);
        Due.is("YARDS that just reach 9999", x.ofTale(0, 3), 9999);
        Due.is("COSTS that just reach 9999", x.ofTale(0, 5), 9999);
        x.go(0, 0);
        Due.is("YARDS held", x.ofTale(0, 3), 9999);
        Due.is("COSTS held", x.ofTale(0, 5), 9999);
    }

    private static void loose() {
        BelievedByYard x = new BelievedByYard();
        Due.is("loose(0)", x.loose(0), Due.BEYOND);
        Due.is("loose(61)", x.loose(61), Due.BEYOND);
        Due.is("loose(-1)", x.loose(-1), Due.BEYOND);
        Due.is("count(9) after ERRORS", x.count(9), 1);
        Due.is("loose(60) without TALES", x.loose(60), 0);
        Due.is("count(2)", x.count(2), 60);
        x = Due.withPlaces(0, 0, 0, 0, 0, 0, 0);
        for (int i = 0; i < 7; i++) {
            x.tale(i * 10 + 3, i, i);
            for (int k = 0; k < i; k++) {
                if (i + k != 6) {
                    x.road(i, k, 0, 10 * i + k);
                    x.road(i, k, 1, i);
                }
            }
        }
        // the same STEPS by go(), taken back each time
        int z = x.count(9);
        int wentInAll = 0;
        for (int turn = 0; turn < 28; turn++) {
            z = z * 1103515245 + 12345;
            int tale = (z >>> 8) % 7;
            z = z * 1103515245 + 12345;
            int place = (z >>> 8) % 7;
            x.image();
            int steps = x.count(2);
            boolean goes = x.go(tale, place) != Due.STATE;
            int[] due = parts(x, tale);
            x.restore();
            Due.is("loose(1)", x.loose(1), goes ? 1 : 0);
            Due.is("count(9)", x.count(9), z);
            Due.is("count(2)", x.count(2), steps + 1);
            int[] got = parts(x, tale);
            for (int i = 0; i < 4; i++) {
                Due.is("part " + (i + 2) + " of TALE " + tale, got[i], due[i]);
            }
            wentInAll += goes ? 1 : 0;
        }
        Due.isTrue("some went, some did not: " + wentInAll, wentInAll > 5 && wentInAll < 28);
        BelievedByYard w = Due.withPlaces(0, 0);
        w.tale(0, 0, 0);
        w.road(0, 1, 0, 1);
        int all = w.loose(60) + w.loose(60);
        Due.is("loose(): how often TALES went", all, w.ofTale(0, 3));
        Due.isTrue("it went more than once", all > 1);
    }

    private static int[] parts(BelievedByYard x, int tale) {
        int[] parts = new int[4];
        for (int i = 0; i < 4; i++) {
            parts[i] = x.ofTale(tale, i + 2);
        }
        return parts;
    }

    private static void lastStep() {
        BelievedByYard x = Due.withPlaces(0, 0);
        x.road(0, 1, 0, 1);
        x.tale(0, 5, 0);
        for (int i = 0; i < 166; i++) {
            x.loose(60);
        }
        Due.is("count(2) behind 166 times 60", x.count(2), 9960);
        int z = x.count(9);
        Due.is("loose(40)", x.loose(40), Due.STATE);
        Due.is("loose(61): BEYOND is asked first", x.loose(61), Due.BEYOND);
        Due.is("count(9) after ERRORS", x.count(9), z);
        x.image();
        Due.isTrue("loose(39) up to 9999", x.loose(39) >= 0);
        Due.is("count(2)", x.count(2), 9999);
        x.restore();
        Due.isTrue("loose(38)", x.loose(38) >= 0);
        int at = x.ofTale(0, 4);
        Due.is("go at 9998", x.go(0, 1 - at), 1);
        Due.is("count(2)", x.count(2), 9999);
        Due.is("go at 9999", x.go(0, at), Due.STATE);
        Due.is("go(0, 2) at 9999: BEYOND is asked first", x.go(0, 2), Due.BEYOND);
        Due.is("loose(1) at 9999", x.loose(1), Due.STATE);
        Due.is("count(2) then", x.count(2), 9999);
        Due.is("reach(0, at, 0): what is thought goes on", x.reach(0, at, 0), 1);
        Due.is("can(0, 60)", x.can(0, 60), 1 << 1 - at);
        Due.is("marked(0, 2)", x.marked(0, 2), 1);
    }
}
