import java.lang.management.ManagementFactory;

/** Calls live in one room: an object makes its rows once, and no call makes anything. */
public final class RoomTest {
    /** Far above what an object's rows take, far below what 512 calls with rows of their own would. */
    private static final long OBJECT_BYTES = 4096;

    private static final com.sun.management.ThreadMXBean THREADS =
            (com.sun.management.ThreadMXBean) ManagementFactory.getThreadMXBean();

    private static long used() {
        return THREADS.getThreadAllocatedBytes(Thread.currentThread().getId());
    }

    private static long text(ActRows x, int sheet) {
        long sum = x.sheet(sheet, 1, 36);
        int place = 0;
        sum += x.put(sheet, place++, 'e');
        for (int f = 0; f < 5; f++) {
            sum += x.put(sheet, place++, ';');
            sum += x.put(sheet, place++, 'p');
            sum += x.put(sheet, place++, '0');
            for (int i = 0; i < 4; i++) {
                sum += x.put(sheet, place++, f == 0 || i == 3 ? 'a' + (i + f) % 4 : '0' + (f - 1));
            }
        }
        return sum + x.program(sheet, 1, 0, place);
    }

    private static long dear(ActRows x) {
        long sum = 0;
        for (int f = 0; f < 5; f++) {
            sum += x.plugs(f) + x.ofFunction(f, 3) + x.ofFunction(f, 4) + x.run(f, 3) + x.performed(f, 1);
            sum += x.path(f, 1) + x.witness(f, 3) + x.free(f, 0) + x.more(f, 0) + x.reading(f, 0);
            sum += x.kinds(f) + x.guards(f) + x.odds(f, 0, 0) + x.tell(f) + x.name(f) + x.as(f, 0);
            sum += x.lives() + x.many(3) + x.guard(f, 1) + x.patch(f, 0, 1) + x.live(7) + x.step(f, 0);
        }
        sum += x.day(0, 1, 0, 0, 4) + x.copy(0, 0, 0, 1, 3) + x.cell(0, 0, 1) + x.back(1) + x.lose(0);
        return sum;
    }

    private static long calls(ActRows x) {
        long sum = 0;
        for (int k = 0; k < 3; k++) {
            sum += text(x, 0) + dear(x);
        }
        return sum;
    }

    public static void main(String[] args) {
        Checks checks = new Checks();
        long first = calls(new ActRows());
        used();
        long before = used();
        ActRows x = new ActRows();
        long made = used();
        long second = calls(x);
        long after = used();
        checks.due("room of an object: " + (made - before), made - before <= OBJECT_BYTES);
        checks.due("room of calls", after - made, 0);
        checks.due("the same calls, the same answers", second, first);
        checks.end();
    }
}
