import java.lang.management.ManagementFactory;

/** All calls of one run live in one room: what a call makes is counted, and the dearest takes no long time. */
final class RoomTest {
    private static final com.sun.management.ThreadMXBean ROOM =
        (com.sun.management.ThreadMXBean) ManagementFactory.getThreadMXBean();

    public static void main(String[] args) {
        BelievedByYard[] made = new BelievedByYard[12];
        for (int i = 0; i < made.length; i++) {
            made[i] = full();
        }
        all(made[0]);
        all(made[1]);
        long before = ROOM.getThreadAllocatedBytes(Thread.currentThread().getId());
        for (int i = 2; i < made.length; i++) {
            all(made[i]);
            all(made[i]);
        }
        long bytes = ROOM.getThreadAllocatedBytes(Thread.currentThread().getId()) - before;
        Due.isTrue("calls make next to nothing: " + bytes + " bytes", bytes < 20000);
        before = ROOM.getThreadAllocatedBytes(Thread.currentThread().getId());
        for (int i = 0; i < made.length; i++) {
            made[i] = new BelievedByYard();
        }
        bytes = (ROOM.getThreadAllocatedBytes(Thread.currentThread().getId()) - before) / made.length;
        Due.isTrue("an object takes little: " + bytes + " bytes", bytes < 10000);
        Due.is("the last one is new", made[11].count(9), 1);
        Due.end();
    }

    /** Seven PLACES with all ROADS, and a TEXT of fifty bytes that never believes. */
    private static BelievedByYard full() {
        BelievedByYard x = Due.withPlaces(0, 0, 0, 0, 0, 0, 0);
        for (int i = 0; i < 7; i++) {
            x.tale(i * 10, i, i);
            for (int k = 0; k < i; k++) {
                x.road(i, k, 0, 50 + i * 7 + k);
                x.road(i, k, 1, 9);
            }
        }
        Due.is("text(0)", Due.text(x, 0, "b+y*p+b+y*p+b+y*p+b+y*p+b+y*p+b+y*p+b+y*p+b+y*p+b"), 1);
        Due.is("text(1)", Due.text(x, 1, "b*d*m*b*d*m*b*d*m*b*d*m*b*d*m*b*d*m*b*d*m*b*d*m*00"), 1);
        return x;
    }

    private static void all(BelievedByYard x) {
        for (int t = 0; t < 7; t++) {
            x.reach(t, (t + 1) % 7, 2);
            x.round(t);
            x.marked(t, 4);
            x.can(t, 60);
            x.cheap(t, (t + 3) % 7, 1);
            x.voice(t, 3, 5);
            x.own(t);
            x.odds(t, 1);
        }
        x.sheet(0, 16, 5);
        x.from(0, 0, 1);
        x.best(1);
        x.loose(3);
        x.image();
        x.restore();
        x.tell(5);
        x.check();
        x.feed(0x622b62L, 3);
        x.text(2);
        x.told(9);
    }
}
