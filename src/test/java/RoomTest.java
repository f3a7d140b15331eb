import java.lang.management.ManagementFactory;

/** The dearest calls leave the room as it is: all rows are made in the constructor. */
public final class RoomTest {
    private static final com.sun.management.ThreadMXBean ROOM =
        (com.sun.management.ThreadMXBean) ManagementFactory.getThreadMXBean();

    public static void main(String[] args) {
        TraceRing warm = new TraceRing();
        useAll(warm, 20);
        long ahead = ROOM.getThreadAllocatedBytes(Thread.currentThread().getId());
        TraceRing x = new TraceRing();
        long made = ROOM.getThreadAllocatedBytes(Thread.currentThread().getId()) - ahead;
        Check.due("a new object takes " + made + " bytes: less than 200,000", made < 200000, true);
        ahead = ROOM.getThreadAllocatedBytes(Thread.currentThread().getId());
        useAll(x, 512);
        long used = ROOM.getThreadAllocatedBytes(Thread.currentThread().getId()) - ahead;
        Check.due("the calls take " + used + " bytes: less than 20,000", used < 20000, true);
        Check.finish();
    }

    private static void useAll(TraceRing x, int times) {
        for (int i = 0; i < times; i++) {
            x.tell(0x74616b6530313b20L);
            x.script();
            x.tell(0x6f7665723b202020L);
            x.ring();
            x.storm(i, 60);
            x.after(i, 60, 12);
            x.fewest(i, 60);
            x.image(i % 3);
            x.again(i % 3);
            x.parsed(0, i % 9, 3);
            x.between(0, i, true);
            x.record(i % 9, 3);
            x.room(1 + i % 8);
            x.resize(2 + i % 5);
        }
    }
}
