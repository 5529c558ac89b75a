import java.util.ArrayList;
import java.util.List;

/**
 * All that can be seen of an object, as a list; it is spoiled then. Two objects are alike where
 * these lists are. It takes some 350 calls at most.
 */
final class Seen {
    private final BelievedByYard x;
    private final List<Integer> all = new ArrayList<>();

    private Seen(BelievedByYard x) {
        this.x = x;
    }

    static List<Integer> of(BelievedByYard x) {
        Seen seen = new Seen(x);
        seen.world();
        seen.trace();
        seen.sheets();
        seen.tapeAndWaiting();
        // what the IMAGE keeps, and how often there was one
        seen.all.add(x.restore());
        seen.world();
        seen.tapeAndWaiting();
        seen.all.add(x.image());
        return seen.all;
    }

    /** What told() tells of k 1 .. 5; ask it ahead of all else. */
    static int[] told(BelievedByYard x) {
        int[] told = new int[5];
        for (int k = 1; k <= 5; k++) {
            told[k - 1] = x.told(k);
        }
        return told;
    }

    private void world() {
        for (int what = 0; what <= 9; what++) {
            all.add(x.count(what));
        }
        int places = x.count(0);
        for (int i = 0; i < places; i++) {
            all.add(x.ofPlace(i, 0));
            for (int k = 0; k < i; k++) {
                all.add(x.between(i, k, 0) * 100 + x.between(k, i, 1));
            }
        }
        int tales = x.count(1);
        for (int i = 0; i < tales; i++) {
            for (int what = 0; what <= 5; what++) {
                all.add(x.ofTale(i, what));
            }
        }
        all.add(x.law(0, 3, 4, 5));
        all.add(x.law(1, 3, 4, 5));
        all.add(x.law(1, 200, 0, 0));
    }

    private void trace() {
        for (int i = 0; i <= 9; i++) {
            all.add(x.trace(i));
        }
    }

    /** Bits by move() between two, length by put(), numbers by marks(). */
    private void sheets() {
        for (int i = 0; i < 4; i++) {
            for (int k = 0; k < i; k++) {
                all.add(x.move(i, 0, k, 0, 0));
            }
            all.add(x.judge(i));
            all.add(x.marks(i));
            int tales = x.count(1);
            for (int t = 0; t < tales; t++) {
                all.add(x.ofTale(t, 2));
            }
            int length = 0;
            while (length < 9 && x.put(i, length, 0) == 1) {
                length++;
            }
            all.add(length);
        }
    }

    private void tapeAndWaiting() {
        all.add(x.check());
        all.add(x.text(0));
        all.add(x.law(0, 3, 4, 5));
    }
}
