import java.lang.management.ManagementFactory;
import java.util.Random;

/** No call throws or takes room, whatever its arguments; an object itself stays small. */
public final class RoomTests {
    private static final long[] EDGES = {0, 1, 2, 3, 7, 8, 9, 10, 15, 16, 20, 59, 60, 255, 300, 900, 999, 1000, 9999,
        10000, -1, -2, -9999, -10000, Integer.MAX_VALUE, Integer.MIN_VALUE, 1 << 30, 65536};
    private static final String CITY = "jurors 9;fifth 4;share 16;person a;person b skill 4;person c;person d;person e;"
            + "person f;person g;person h skill 9;deed aa of a fine 999 odds 9;deed bb of b fine 31 odds 8;"
            + "deed cc of c fine 500 odds 7;deed dd of d fine 77 odds 6;deed ee of e fine 1 odds 16;"
            + "deed ff of a fine 999 odds 9;deed gg of b fine 31 odds 8;deed hh of c fine 500 odds 7;"
            + "deed ii of d fine 77 odds 6;deed jj of e fine 1 odds 16;";
    private static final String YEARS = "loop 99;loop 99;any;drop a bb for 1;loop 99;end;end;end;";

    private RoomTests() {
    }

    public static void main(String[] args) {
        for (int seed = 0; seed < 1500; seed++) {
            edges(new Random(seed));
        }
        room();
        Check.end("RoomTests");
    }

    private static void edges(Random random) {
        HalfAccuser x = new HalfAccuser();
        if (random.nextInt(5) > 0) {
            Calls.city(x, CITY);
            Calls.years(x, YEARS);
        }
        // With the feeds ahead and three calls each these stay below 512.
        for (int i = 0; i < 150; i++) {
            int which = random.nextInt(Calls.NAMES.length);
            long[] a = new long[Calls.ARGUMENTS[which]];
            for (int k = 0; k < a.length; k++) {
                int kind = random.nextInt(8);
                a[k] = kind == 0 ? random.nextInt() : kind < 5 ? random.nextInt(11) : EDGES[random.nextInt(EDGES.length)];
            }
            long answer = Calls.call(x, Calls.NAMES[which], a);
            Check.that("status " + x.status(), x.status() >= 0 && x.status() <= 11);
            Check.that("bottom " + x.bottom(), x.bottom() > 0);
            if (Plain.BOOLEANS.contains(Calls.NAMES[which])) {
                Check.that(Calls.NAMES[which] + " and its status", (answer == 1) == (x.status() == 0));
            }
        }
    }

    private static long taken() {
        return ((com.sun.management.ThreadMXBean) ManagementFactory.getThreadMXBean())
                .getThreadAllocatedBytes(Thread.currentThread().getId());
    }

    // All rows are made with the object: 64-bit cells would make some 7,000 elements 56,000 bytes.
    private static void room() {
        long start = taken();
        HalfAccuser x = new HalfAccuser();
        long made = taken() - start;
        Check.that("an object takes " + made + " bytes", made < 100000);
        int n = Calls.feed(x, CITY);
        start = taken();
        x.city(n);
        Check.that("city takes " + (taken() - start) + " bytes", taken() - start < 5000);
        n = Calls.feed(x, YEARS);
        start = taken();
        x.years(n);
        for (int i = 0; i < 40; i++) {
            x.mark();
            x.live(i);
            x.mean(i, 20);
            x.back();
            x.quiet();
            x.club(255);
            x.game(0, 1, 3);
            x.gained(7, 31);
            x.sure(7, 31);
            x.leastFine(0);
            x.tray(i % 4, 3, 60);
        }
        Check.that("440 calls take " + (taken() - start) + " bytes", taken() - start < 5000);
    }
}
