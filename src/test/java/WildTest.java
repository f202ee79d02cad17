import java.lang.management.ManagementFactory;
import java.util.Random;

/** Calls with any arguments in any state: none may throw, and none may make objects. */
public final class WildTest {
    private static final Check check = new Check("WildTest");
    private static final Random chance = new Random(600000);
    private static final String[] TEXTS = {"d1", "d4", Check.EXAMPLE, Check.PATHS,
        "d4;w9j231;w9t03;w7j012;w9j023;w9n301,010,110,231,302", "d1;w9j000;b1t00;p1c00,001,012,023,030",
        "d2;p1n101", "d2;p1c10,00"};
    private static final int[] EDGES = {Integer.MIN_VALUE, Integer.MIN_VALUE + 1, -1000, -10, -9, -4, -1, 0, 1, 2,
        3, 4, 5, 10, 14, 59, 60, 61, 1000, 1001, Integer.MAX_VALUE - 1, Integer.MAX_VALUE};

    public static void main(String[] args) {
        for (int run = 0; run < 400; run++) {
            wildRun();
        }
        roomOfCalls();
        check.end();
    }

    private static int number() {
        return chance.nextInt(4) == 0 ? EDGES[chance.nextInt(EDGES.length)] : chance.nextInt(5);
    }

    private static void wildRun() {
        RoundRules x = new RoundRules();
        int calls = 0;
        for (int k = 0; k < 512; k++) {
            if (chance.nextInt(40) == 0) {
                Check.program(x, TEXTS[chance.nextInt(TEXTS.length)]);
            }
            try {
                Calls.on(x, chance.nextInt(Calls.COUNT), number(), number(), number(), number(), number());
                calls++;
            } catch (RuntimeException thrown) {
                System.out.println("a call threw " + thrown);
            }
        }
        check.due("calls that did not throw", calls, 512);
    }

    private static void roomOfCalls() {
        if (!(ManagementFactory.getThreadMXBean() instanceof com.sun.management.ThreadMXBean threads)) {
            return;
        }
        long thread = Thread.currentThread().getId();
        RoundRules x = Check.of(Check.EXAMPLE);
        x.sheet(0, 2, 60);
        threads.getThreadAllocatedBytes(thread);
        long before = threads.getThreadAllocatedBytes(thread);
        for (int k = 0; k < Calls.COUNT * 2000; k++) {
            Calls.on(x, k % Calls.COUNT, k / Calls.COUNT % 3, 1, 2, 3, 0);
        }
        long made = threads.getThreadAllocatedBytes(thread) - before;
        check.due("56000 calls made " + made + " bytes", made < 56000);
    }
}
