import java.util.Arrays;

/** Counts what holds and prints what does not. */
final class Check {
    private static int held;
    private static int broken;
    private static int promise;
    private static final int[] BY_PROMISE = new int[56];

    private Check() {
    }

    static void promise(int number) {
        promise = number;
    }

    static void that(String what, boolean holds) {
        BY_PROMISE[promise]++;
        if (holds) {
            held++;
        } else {
            broken++;
            if (broken <= 40) {
                System.out.println("promise " + promise + ": " + what);
            }
        }
    }

    static void same(String what, long got, long due) {
        that(what + " answered " + got + ", due is " + due, got == due);
    }

    static boolean isBroken() {
        return broken > 0;
    }

    static void everyPromise() {
        for (int i = 1; i < BY_PROMISE.length; i++) {
            if (BY_PROMISE[i] == 0) {
                promise = i;
                that("no check", false);
            }
        }
        System.out.println("checks by promise: " + Arrays.toString(BY_PROMISE));
    }

    static void end(String name) {
        System.out.println(name + ": " + held + " checks hold, " + broken + " do not");
        if (broken > 0) {
            System.exit(1);
        }
    }
}
