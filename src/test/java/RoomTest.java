import com.sun.management.ThreadMXBean;
import java.lang.management.ManagementFactory;

/** The dearest runs of 512 calls stay far below the room that all calls of a run have. */
public final class RoomTest {
    private static final Check CHECK = new Check("RoomTest");
    private static final long MOST_BYTES = 4_000_000;
    private static final ThreadMXBean THREADS = (ThreadMXBean) ManagementFactory.getThreadMXBean();

    private interface Run {
        void call(LeapDesigner x, int i);
    }

    public static void main(String[] args) {
        String longRow = longRow();
        room("design", (x, i) -> CHECK.due("designed", 400, Check.design(x, i % 6, longRow)));
        room("asRow", (x, i) -> x.asRow(0));
        room("write", (x, i) -> x.write(i % 3));
        room("truth", (x, i) -> x.truth(1, i, 1, 2));
        room("shift", (x, i) -> x.shift(1, i % 1000));
        room("copy", (x, i) -> x.copy(4, i % 3));
        room("like", (x, i) -> x.like(2, 3));
        room("keeps", (x, i) -> x.keeps(1));
        room("best", (x, i) -> x.best(618034, 1000000, 100000, 0));
        room("convergent", (x, i) -> x.convergent(618034, 1000000, i % 30, 0));
        room("suggests", (x, i) -> x.suggests(1, 1000, 2));
        room("dawns", (x, i) -> x.dawns(2, 0, 20000, 1));
        room("extreme", (x, i) -> x.extreme(2, 0, 20000, true, 0));
        room("steady", (x, i) -> x.steady(2, 0, 20000, 9999, 0));
        room("apart", (x, i) -> x.apart(2, 3, 0, 20000, 2));
        room("join", (x, i) -> x.join(0, i, 1, 0, 0, 0));
        room("busiest", (x, i) -> x.busiest(0, 0, 5000, 0, 0, 0));
        room("new", (x, i) -> new LeapDesigner());
        CHECK.end();
    }

    private static String longRow() {
        StringBuilder row = new StringBuilder("row 400");
        for (int year = 220; year < 400; year++) {
            row.append(' ').append(year);
        }
        return row.append(";year 15;months 1 1 1 1 1 1 1 1 1 1 1 1 1 1 1;").toString();
    }

    private static void room(String name, Run run) {
        LeapDesigner x = Check.with("even 400 of 400;", "even 618 of 1000;true 365 and 618034 of 1000000;", "every 1 not 4999 but 9998;",
            "every 1 not 9998;");
        long before = THREADS.getThreadAllocatedBytes(Thread.currentThread().getId());
        long from = System.nanoTime();
        for (int i = 0; i < 512; i++) {
            run.call(x, i);
        }
        long bytes = THREADS.getThreadAllocatedBytes(Thread.currentThread().getId()) - before;
        long millis = (System.nanoTime() - from) / 1000000;
        System.out.println(name + ": " + bytes + " bytes, " + millis + " ms");
        CHECK.due(name + " needs " + bytes + " bytes", true, bytes <= MOST_BYTES);
        CHECK.due(name + " takes " + millis + " ms", true, millis < 20000);
    }
}
