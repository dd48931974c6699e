import java.lang.management.ManagementFactory;

/** A run's objects are counted: the constructor makes few, calls make none. */
public final class RoomTest {
    private static final Checks C = new Checks();
    private static final int CALLS = 500;

    public static void main(String[] args) {
        C.test("the dearest calls make no objects");
        if (ManagementFactory.getThreadMXBean() instanceof com.sun.management.ThreadMXBean) {
            com.sun.management.ThreadMXBean threads =
                    (com.sun.management.ThreadMXBean) ManagementFactory.getThreadMXBean();
            long id = Thread.currentThread().getId();
            run(new DrillWardens());
            DrillWardens x = new DrillWardens();
            long before = threads.getThreadAllocatedBytes(id);
            run(x);
            long made = threads.getThreadAllocatedBytes(id) - before;
            C.holds(made + " bytes were made by " + CALLS + " calls", made < 10_000);
        }
        C.finish();
    }

    private static void run(DrillWardens x) {
        x.set(0, 2);
        x.set(2, 1);
        for (int floor = 0; floor < 10; floor++) {
            for (int i = 0; i < 5; i++) {
                x.enlist(floor, (floor * 3 + i) % 16);
            }
        }
        String text = "leave 1 0 399;leave 2 0 399;leave 3 0 399;drill 0 5;drill 1 60;off 1 1;pass 1";
        for (int i = 0; i < text.length(); i++) {
            x.type(text.charAt(i));
        }
        x.keep();
        for (int i = 0; i < CALLS - 200; i += 10) {
            x.perform();
            x.undo();
            x.leave(i % 16, 0, 399);
            x.ifLeft((i + 1) % 16, 0, 399);
            x.bestDay(1);
            x.firstShort(3);
            x.load(4, 99);
            x.reason(5, 5, 5);
            x.person(3, 5);
            x.restore();
        }
    }
}
