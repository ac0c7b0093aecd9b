import java.lang.management.ManagementFactory;

/** All calls of a run live in one room: once an object is made, its calls make nothing more. */
final class RoomTest {
    private static final int ROUNDS = 20;
    /** What the machine itself may ask for meanwhile. */
    private static final long SPARE_BYTES = 10_000;

    public static void main(String[] args) {
        com.sun.management.ThreadMXBean machine =
            (com.sun.management.ThreadMXBean) ManagementFactory.getThreadMXBean();
        long own = Thread.currentThread().getId();
        WaterThanks x = Check.threeVillages();
        long[] text = {2320233624100955500L, 8315172612181354089L, 7308251733965159968L, 15152L};
        callAll(x, text);
        long before = machine.getThreadAllocatedBytes(own);
        for (int i = 0; i < ROUNDS; i++) {
            callAll(x, text);
        }
        long made = machine.getThreadAllocatedBytes(own) - before;
        if (made > SPARE_BYTES) {
            System.out.println("calls made " + made + " bytes of objects");
        }
        Check.due("the calls make no objects", made <= SPARE_BYTES);
        Check.end();
    }

    private static void callAll(WaterThanks x, long[] text) {
        x.village(3);
        x.year(7);
        x.dam(1, 4);
        for (long eight : text) {
            x.feed(eight, 8);
        }
        x.read();
        x.sheet(0, 0, 12);
        x.put(0, 0, 9);
        x.worths(0, 0);
        x.sheet(1, 2, 6);
        x.lawful(1);
        x.sheet(2, 1, 6);
        x.flows(0, 2, 0, 6);
        for (int i = 0; i < 6; i++) {
            x.set(i, 0, i + 6);
            x.price(i);
            x.use(i, 1);
            x.most(i);
            x.run(0, i);
            x.share(i, i, 1);
            x.broken(i);
            x.cleaning(i);
            x.treaty(i, i, 2);
            x.breaks(i);
            x.plain(i);
            x.shelf(i, i, i);
            x.taken(i, i);
            x.act(i, i, 7);
            x.trace(i);
            x.many(i);
        }
        x.best(13);
        x.kept(-1);
        x.lost();
        x.prove();
        x.alterRow(1, 1, 1);
        x.judge();
        x.keep();
        x.again();
    }
}
