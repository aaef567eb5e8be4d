import java.lang.management.ManagementFactory;
import java.util.Random;

/** Whatever the arguments are: no call throws, one that returns an error changes nothing, and none makes objects. */
public final class SteadyTest {
    private static final int[] EDGES = {Integer.MIN_VALUE, Integer.MIN_VALUE + 1, -7, -6, -2, -1, 0, 1, 2, 3, 5, 6, 7, 11,
        12, 13, 39, 40, 41, 59, 60, 61, 200, 201, 65535, 65536, Integer.MAX_VALUE - 1, Integer.MAX_VALUE};
    private static final long[] EDGES_OF_PUT = {0, 1, -1, Long.MIN_VALUE, Long.MAX_VALUE, 32, 33, 126, 127, 255, 256,
        0x4100, 0x4141414141414141L, 0xff41414141414141L, 0x7e7e7e7e7e7e7e7eL};

    private SteadyTest() {
    }

    public static void main(String[] args) {
        Checks checks = new Checks();
        edges(checks);
        errorsChangeNothing(checks);
        longRuns(checks);
        noObjects(checks);
        checks.close();
    }

    /** Every call with edges as arguments, on an office that is empty and on one that is full. */
    private static void edges(Checks checks) {
        for (int full = 0; full < 2; full++) {
            for (int first : EDGES) {
                for (int second : EDGES) {
                    ClimbPermits office = full == 0 ? new ClimbPermits() : full();
                    checks.holds("route", office.route(first, second) >= -4);
                    checks.holds("buffer", office.buffer(first, second) >= -2);
                    checks.holds("set", office.set(first, second) >= -2);
                    checks.holds("lottery", office.lottery(first, second) >= -5);
                    checks.holds("climber", office.climber(first, second) >= -6);
                    checks.holds("application", office.application(first, second) >= -2);
                    checks.holds("nextWaiting", office.nextWaiting(first, second) >= -6);
                    checks.holds("tries", office.tries(first, second) >= -5);
                    for (int third : EDGES) {
                        checks.holds("onRoute", office.onRoute(first, second, third) >= -2);
                        checks.holds("apply", office.apply(third, first, second, 1) >= -5);
                        checks.holds("apply", office.apply(0, first, second, third) >= -5);
                    }
                }
                ClimbPermits office = full == 0 ? new ClimbPermits() : full();
                checks.holds("count", office.count(first) >= -2);
                checks.holds("odds", office.odds(first) >= -5);
                checks.holds("standby", office.standby(first) >= -5);
                checks.holds("show", office.show(first) >= -5);
                checks.holds("cancel", office.cancel(first) >= -5);
                checks.holds("close", office.close(first) >= -5);
                checks.holds("restore", office.restore(first) >= -5);
                checks.holds("save", office.save(first) >= -2);
            }
        }
        for (long characters : EDGES_OF_PUT) {
            ClimbPermits office = new ClimbPermits();
            for (int i = 0; i < 70; i++) {
                checks.holds("put", office.put(characters) >= -4);
                checks.holds("fault", office.fault() >= -6);
            }
            checks.due("load", office.load(), -3);
        }
    }

    private static ClimbPermits full() {
        ClimbPermits office = new ClimbPermits();
        for (int i = 0; i < 6; i++) {
            office.route(12, i);
        }
        for (int i = 0; i < 12; i++) {
            office.join();
        }
        for (int i = 0; i < 40; i++) {
            office.apply(i % 12, i % 6, 50 + i % 10, 1 + i % 4);
        }
        return office;
    }

    private static void errorsChangeNothing(Checks checks) {
        for (int run = 0; run < 60; run++) {
            Random random = new Random(7000 + run);
            ClimbPermits office = new ClimbPermits();
            int spread = 2 + random.nextInt(8);
            String before = Snapshot.of(office);
            for (int i = 0; i < 300; i++) {
                Call call = Call.random(random, Call.seen(office), spread, 0);
                int answer = call.on(office);
                String behind = Snapshot.of(office);
                boolean asks = call.what >= 11 && call.what <= 17 || call.what == 20 || call.what == 22;
                if (answer < 0 || asks) {
                    checks.holds("run " + run + ": " + call + " changed something", before.equals(behind));
                }
                before = behind;
            }
        }
    }

    /** Beyond the 512 calls of the document nothing is promised, but still nothing may be thrown. */
    private static void longRuns(Checks checks) {
        for (int run = 0; run < 20; run++) {
            Random random = new Random(9000 + run);
            ClimbPermits office = new ClimbPermits();
            for (int i = 0; i < 20000; i++) {
                int answer = Call.random(random, Call.seen(office), 5, 0).on(office);
                checks.holds("an answer", answer >= -6);
            }
        }
    }

    private static void noObjects(Checks checks) {
        Call[] calls = new Call[20000];
        Random random = new Random(1);
        ClimbPermits chosen = full();
        for (int i = 0; i < calls.length; i++) {
            ClimbPermits chosenBy = i % 512 == 0 ? full() : chosen;
            calls[i] = Call.random(random, Call.seen(chosenBy), 6, 0);
            calls[i].on(chosenBy);
            chosen = chosenBy;
        }
        ClimbPermits office = full();
        makeAll(office, calls);
        long empty = madeBytes(office, new Call[0]);
        checks.due("bytes made by " + calls.length + " calls", madeBytes(office, calls) - empty, 0);
    }

    private static long madeBytes(ClimbPermits office, Call[] calls) {
        com.sun.management.ThreadMXBean threads = (com.sun.management.ThreadMXBean) ManagementFactory.getThreadMXBean();
        long own = Thread.currentThread().getId();
        long before = threads.getThreadAllocatedBytes(own);
        makeAll(office, calls);
        return threads.getThreadAllocatedBytes(own) - before;
    }

    private static void makeAll(ClimbPermits office, Call[] calls) {
        for (Call call : calls) {
            call.on(office);
        }
    }
}
