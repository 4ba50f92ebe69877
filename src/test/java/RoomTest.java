import java.lang.management.ManagementFactory;

/** After its constructor an object makes next to nothing: the room of a run is kept for all its calls. */
public final class RoomTest {
    private static final Probe P = new Probe();
    private static long answers;

    public static void main(String[] args) {
        com.sun.management.ThreadMXBean threads = (com.sun.management.ThreadMXBean) ManagementFactory.getThreadMXBean();
        long id = Thread.currentThread().getId();
        calls(full());
        BreadTalk x = full();
        long before = threads.getThreadAllocatedBytes(id);
        calls(x);
        long made = threads.getThreadAllocatedBytes(id) - before;
        P.due("some 500 dear calls make less than 32 KB (" + made + ")", made < 32768, true);
        before = threads.getThreadAllocatedBytes(id);
        BreadTalk y = new BreadTalk();
        made = threads.getThreadAllocatedBytes(id) - before;
        answers += y.count(0);
        P.due("an object takes less than 48 KB (" + made + ")", made < 49152, true);
        P.due("there were answers", answers != 0, true);
        P.end("RoomTest");
    }

    private static BreadTalk full() {
        BreadTalk x = Probe.withTown("topics 6;" + "house 9 0;".repeat(8) + "visit 0 1;visit 1 2;visit 2 0;visit 3 0;visit 4 5;visit 5 4;"
            + "said 0 5 for 3;said 0 0 for 2;said 3 1 against 3;said 3 0 for 1;mind 4 0 for 1;mind 5 0 against 1;"
            + "loaf rye 0;loaf wafer 0;loaf toast 3;loaf crust 0;loaf bun 3;loaf wafer 1;loaf wafer 3;loaf toast 0;mind 7 5 against 3;mind 0 0 for 1;");
        Probe.tell(x, 1, -1, "bake rye 0;night;eat 0 0;talk 7 3;");
        Probe.tell(x, 2, -1, "topics 6;lies 9;" + "crumb toast 5 against 3;".repeat(12));
        Probe.put(x, "topics 2;house 1 1;loaf rye 0;");
        x.image(2);
        x.text(0, -1);
        return x;
    }

    private static void calls(BreadTalk x) {
        for (int i = 0; i < 24; i++) {
            answers += x.state(0, 0, 4, 10) + x.stop(0, 0) + x.shares(0, 5, 0) + x.shares(0, 0, 2);
            answers += x.feast(0, 0, 63, 5, 2) + x.agree(0, 0) + x.agree(0, 1) + x.agree(0, 2) + x.side(0, 1, 0);
            answers += x.visits(0, 0, 2) + x.visits(0, 0, 0) + x.sign(0, 0, 0, 99) + x.rest(0, 0, 3) + x.fits(0, 2);
            answers += x.jury(12, 6, 7, true) + x.bound(12, 7, 5) + x.drawn(0, i, 60, 1) + x.factions(0, 3, -1);
            answers += x.sway(0, 7, 5, true) + (x.again(2) ? 1 : 0) + x.text(0, 0) + (x.image(i % 2) ? 1 : 0);
        }
    }
}
