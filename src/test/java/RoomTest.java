import java.lang.management.ManagementFactory;

/** All calls of a run live in one room: behind its making an object makes next to nothing. */
final class RoomTest {
    private static final Due due = new Due();

    public static void main(String[] args) {
        WidowRoads x = new WidowRoads();
        String text = "colony years 12 law 2 odds 3 wide 8 high 8;creek 3 3;creek 4 4;house 1 1;house 2 2;house 5 5;"
                + "widow 0 0 faces 1 steps 40 at 0 grief on left;".repeat(7);
        due.is("lines", Due.tell(x, text), 13);
        use(x);
        long before = allocated();
        for (int i = 0; i < 500; i++) {
            use(x);
        }
        long bytes = allocated() - before;
        due.is("bytes made by 500 rounds of the dearest calls, in steps of 20,000", bytes / 20_000, 0);
        due.finish();
    }

    private static long allocated() {
        return ((com.sun.management.ThreadMXBean) ManagementFactory.getThreadMXBean()).getCurrentThreadAllocatedBytes();
    }

    private static void use(WidowRoads x) {
        x.bridge(33);
        x.share(3, 0);
        x.mean(0);
        x.chance(7, 1);
        x.rests(0, 1);
        x.bridges(12);
        x.covers();
        x.ford();
        x.blame();
        x.row(0, 0, 60);
        x.faced(0, 1);
        x.ask(0, 1);
        x.luck(5, 20, 0);
        x.law();
        x.image(0);
        x.back(0);
        x.undo();
        x.feed(1, 2, 3, 4, 5);
        x.colony();
        x.end(0);
    }
}
