import com.sun.management.ThreadMXBean;
import java.lang.management.ManagementFactory;

/** All rows are made by the constructor: no call, however dear, takes room of its own. */
public final class RoomTest {
    private static final long MOST_BYTES = 64 * 1024;

    public static void main(String[] args) {
        run(new IsomerList());
        IsomerList list = new IsomerList();
        ThreadMXBean threads = (ThreadMXBean) ManagementFactory.getThreadMXBean();
        long before = threads.getCurrentThreadAllocatedBytes();
        int calls = run(list);
        long taken = threads.getCurrentThreadAllocatedBytes() - before;
        System.out.println(calls + " calls took " + taken + " bytes");
        Check.due("few bytes taken", taken < MOST_BYTES ? 1 : 0, 1);
        Check.due("within an object's calls", calls <= 512 ? 1 : 0, 1);
        Check.end();
    }

    private static int run(IsomerList list) {
        int calls = 0;
        for (int round = 0; round < 15; round++) {
            String formula = round % 2 == 0 ? "C6H6" : "C2N4H4";
            list.erase();
            for (int k = 0; k < formula.length(); k++) {
                list.type(formula.charAt(k));
            }
            list.formula();
            for (int i = 0; i < 5; i++) {
                list.write(i * 40);
                list.read();
                list.ways(i);
                list.bond(i, 0, 1);
            }
            calls += 2 + formula.length() + 20;
        }
        return calls;
    }
}
