import java.lang.management.ManagementFactory;

/** All calls of a run live in one room: what an object takes, and that its calls take nothing more. */
public final class RoomTest {
    private static final long ROOM_OF_AN_OBJECT = 40000;
    /** Less than a smallest object for each of the calls. */
    private static final long ROOM_OF_MEASURING = 2000;

    public static void main(String[] args) {
        // Once before, so that what the machine itself makes at the first use does not count.
        dearestRun(dearestWorld());
        long before = allocated();
        SchemaJudge x = new SchemaJudge();
        long made = allocated() - before;
        Check.due("a new object takes " + made + " bytes, at most " + ROOM_OF_AN_OBJECT, made <= ROOM_OF_AN_OBJECT, true);
        Check.due("it is empty", x.faults(), 0);
        SchemaJudge y = dearestWorld();
        before = allocated();
        long sum = dearestRun(y);
        long taken = allocated() - before;
        Check.due("the dearest calls take " + taken + " bytes, but for the measuring", taken < ROOM_OF_MEASURING, true);
        Check.due("they had faults", sum > 0, true);
        Check.end();
    }

    private static long allocated() {
        java.lang.management.ThreadMXBean bean = ManagementFactory.getThreadMXBean();
        return bean instanceof com.sun.management.ThreadMXBean counter
            ? counter.getThreadAllocatedBytes(Thread.currentThread().getId()) : 0;
    }

    /** Many pairs are judged: most schemas lead in place to the next one, and each one to itself down through the values. */
    private static SchemaJudge dearestWorld() {
        SchemaJudge x = new SchemaJudge();
        for (int v = 0; v < 15; v++) {
            x.make(4);
            for (int n = 0; n < 8 && v > 0; n++) {
                x.push(v, v - 1);
            }
        }
        for (int s = 0; s < 24; s++) {
            x.schema();
            x.rule(s, 22, s);
            x.rule(s, 13, 1);
            x.rule(s, 1, 0);
        }
        for (int s = 0; s < 15; s++) {
            x.rule(s, 21, s + 1);
        }
        return x;
    }

    private static long dearestRun(SchemaJudge x) {
        long sum = 0;
        for (int n = 0; n < 40; n++) {
            sum += x.judge(n % 24, 14) ? 1 : 0;
            sum += x.faults();
            sum += x.fault(x.faults() - 1);
            sum += x.marks(n % 24, 0);
            sum += x.equal(13, 14) ? 1 : 0;
        }
        return sum;
    }
}
