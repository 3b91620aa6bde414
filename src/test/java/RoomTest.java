import com.sun.management.ThreadMXBean;
import java.lang.management.ManagementFactory;

/**
 * All calls of a run live in one room that is never emptied, so calls make nothing but the laws and
 * plans that they keep.
 */
public final class RoomTest {
    private static final Due DUE = new Due();
    private static final ThreadMXBean THREADS = (ThreadMXBean) ManagementFactory.getThreadMXBean();

    public static void main(String[] args) {
        // Once unmeasured, so that nothing of the machine's own start is counted.
        run();
        makes();
        long made = makes();
        DUE.isTrue("a new object takes " + made + " bytes, 60,000 at most", made <= 60_000);
        long before = allocated();
        run();
        long run = allocated() - before;
        System.out.println(made + " bytes a new object, " + run + " a run");
        DUE.isTrue("a run of calls takes " + run + " bytes, 400,000 at most", run <= 400_000);
        DUE.finish();
    }

    private static long allocated() {
        return THREADS.getThreadAllocatedBytes(Thread.currentThread().getId());
    }

    private static long makes() {
        long before = allocated();
        SoleraCellar x = new SoleraCellar();
        long after = allocated();
        DUE.is("a new one", x.count(0), 0);
        return after - before;
    }

    /** 512 calls: the longest texts and the dearest questions again and again. */
    private static void run() {
        SoleraCellar x = new SoleraCellar();
        for (int i = 0; i < 4; i++) {
            x.cask(i, 999);
            x.pour(i, 500);
        }
        int[][] law = Due.rows(Due.bytes(("loses mean+1 if full>1;").repeat(11) + "loses mean+1 if full>1"));
        int[][] plan = Due.rows(Due.bytes(("rack 1 from 1 in 0 times 20;").repeat(11) + "bottle 9 from 0 times 20"));
        x.image(0);
        int calls = 9;
        for (int round = 0; calls < 460; round++) {
            boolean isLaw = round % 2 == 0;
            for (int[] r : isLaw ? law : plan) {
                x.feed(r[0], r[1], r[2], r[3], r[4]);
                calls++;
            }
            DUE.isTrue("a text is taken", (isLaw ? x.law() : round % 4 == 1 ? x.plan() : x.orders()) >= 0);
            x.best(60, 0);
            x.starves(0);
            x.harvests(round, 60);
            x.taste(0);
            x.few(20, 99);
            calls += 7;
            if (round % 4 == 3) {
                x.back(0);
            }
        }
    }
}
