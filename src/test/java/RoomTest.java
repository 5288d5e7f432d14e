import java.lang.management.ManagementFactory;

/** Calls make no objects: all rows are made with the object and used again. */
public final class RoomTest {
    private static final int CALLS = 512;
    /** Far below what one small array a call would come to. */
    private static final long MOST_BYTES_OF_CALLS = 4096;
    /** Some 2,300 fields and elements, most of them of 4 bytes. */
    private static final long MOST_BYTES_OF_OBJECT = 20000;
    private static final Due DUE = new Due("RoomTest");

    public static void main(String[] args) {
        if (!(ManagementFactory.getThreadMXBean() instanceof com.sun.management.ThreadMXBean room)) {
            System.out.println("RoomTest: this machine does not count what is made");
            return;
        }
        long id = Thread.currentThread().getId();
        run(new SightChart());
        long start = room.getThreadAllocatedBytes(id);
        SightChart x = new SightChart();
        long made = room.getThreadAllocatedBytes(id);
        run(x);
        long end = room.getThreadAllocatedBytes(id);
        DUE.is("an object is small: " + (made - start), made - start < MOST_BYTES_OF_OBJECT ? 1 : 0, 1);
        DUE.is("calls make nothing: " + (end - made), end - made < MOST_BYTES_OF_CALLS ? 1 : 0, 1);
        DUE.end();
    }

    private static void run(SightChart x) {
        int[] kinds = {1, 2, 1, 2, 1, 0, 0};
        for (int kind : kinds) x.node(kind, 3);
        x.parent(2, 0);
        x.parent(2, 1);
        for (int p = 2; p < 5; p++) x.parent(5, p);
        x.parent(6, 1);
        x.sight(1, 0);
        x.row(0, 10);
        for (int i = 0; i < CALLS; i++) {
            int n = i % 7;
            switch (i / 7 % 24) {
                case 0: x.weigh(n, n, n, 12 - n); break;
                case 1: x.worth(n, i % 27, i % 201 - 100); break;
                case 2: x.best(); break;
                case 3: x.does(n, 0); break;
                case 4: x.bestForgetting(); break;
                case 5: x.lost(); break;
                case 6: x.worthOf(3, n); break;
                case 7: x.knowing(); break;
                case 8: x.inHand(n); break;
                case 9: x.needless(1, n); break;
                case 10: x.span(5, n, true); break;
                case 11: x.chance(n, 1); break;
                case 12: x.end(true); break;
                case 13: x.row(i % 4, n); break;
                case 14: x.lay(0, n, i); break;
                case 15: x.copy(0, 0, 1, 1, n); break;
                case 16: x.fill(6, 0); break;
                case 17: x.digest(); break;
                case 18: x.mark(n, 2); break;
                case 19: x.mean(n); break;
                case 20: x.meanSights(); break;
                case 21: x.told(n, 4); break;
                case 22: x.span(6, 1, false); break;
                default: x.tear(i % 4); break;
            }
        }
    }
}
