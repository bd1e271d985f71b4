/** The edges that promises 5 to 8 and 16 name, and TRAYS as the Terms tell them. */
public final class TrayEdgeTests extends Trial {
    private TrayEdgeTests() {
    }

    public static void main(String[] args) {
        traysAreFour();
        missingAtFirst();
        sorts();
        bits();
        lengths();
        allZeros();
        besideIt();
        orderOfTray();
        places();
        noneAndMinusOne();
        pourLengths();
        pourAsTheyWere();
        pourOrder();
        coinsFit();
        coinsOnly();
        Check.end("TrayEdgeTests");
    }

    // "TRAYS, 0 to 3"; 1: no such TRAY.
    private static void traysAreFour() {
        fresh();
        for (int tray = 0; tray <= 3; tray++) {
            due(5, 1, "tray", tray, 0, 2);
            due(6, 1, "write", tray, 1, 10 + tray);
        }
        for (int tray = 0; tray <= 3; tray++) {
            due(7, 10 + tray, "read", tray, 1);
            due(8, 1, "pour", tray, 0, 3 - tray, 0, 1);
            due(16, 0, "copyCoins", tray);
        }
        for (int tray : new int[] {-1, 4, LEAST, MOST}) {
            refused(5, 1, "tray", tray, 0, 2);
            refused(6, 1, "write", tray, 0, 5);
            refused(7, 1, "read", tray, 0);
            refused(8, 1, "pour", tray, 0, 0, 0, 1);
            refused(8, 1, "pour", 0, 0, tray, 0, 1);
            refused(16, 1, "copyCoins", tray);
        }
    }

    // "are MISSING at first"; 3: the TRAY is MISSING.
    private static void missingAtFirst() {
        fresh();
        for (int tray = 0; tray <= 3; tray++) {
            refused(6, 3, "write", tray, 0, 5);
            refused(7, 3, "read", tray, 0);
            refused(8, 3, "pour", tray, 0, tray, 0, 0);
            refused(16, 3, "copyCoins", tray);
        }
        due(5, 1, "tray", 1, 0, 0);
        refused(7, 4, "read", 1, 0);
        due(8, 1, "pour", 1, 0, 1, 0, 0);
        refused(8, 3, "pour", 1, 0, 0, 0, 0);
        refused(8, 3, "pour", 0, 0, 1, 0, 0);
    }

    // "(sort 0), 16 (1), 32 (2) or 64 (3)"; 1: no such sort.
    private static void sorts() {
        fresh();
        for (int sort = 0; sort <= 3; sort++) {
            due(5, 1, "tray", 2, sort, 1);
        }
        due(6, 1, "write", 2, 0, Long.MAX_VALUE);
        for (int sort : new int[] {-1, 4, LEAST, MOST}) {
            refused(5, 1, "tray", 2, sort, 1);
            refused(5, 1, "tray", 3, sort, 1);
        }
        due(7, Long.MAX_VALUE, "read", 2, 0);
        refused(7, 3, "read", 3, 0);
    }

    private static void cut(int sort, long written, long kept) {
        due(5, 1, "tray", 0, sort, 3);
        due(6, 1, "write", 0, 1, written);
        due(7, kept, "read", 0, 1);
        due(7, 0, "read", 0, 0);
        due(7, 0, "read", 0, 2);
    }

    // "with sign; what is written is cut to these"
    private static void bits() {
        fresh();
        for (int sort = 0; sort <= 2; sort++) {
            long half = 1L << (8 << sort) - 1;
            cut(sort, half - 1, half - 1);
            cut(sort, half, -half);
            cut(sort, -half, -half);
            cut(sort, -half - 1, half - 1);
            cut(sort, 2 * half - 1, -1);
            cut(sort, 2 * half, 0);
            cut(sort, 2 * half + 1, 1);
            cut(sort, -1, -1);
            cut(sort, Long.MIN_VALUE, 0);
            cut(sort, Long.MAX_VALUE, -1);
        }
        cut(3, Long.MAX_VALUE, Long.MAX_VALUE);
        cut(3, Long.MIN_VALUE, Long.MIN_VALUE);
        cut(3, 1L << 32, 1L << 32);
    }

    // "(at most 60; 5)", 6: below 0
    private static void lengths() {
        for (int sort = 0; sort <= 3; sort++) {
            fresh();
            due(5, 1, "tray", 3, sort, 60);
            due(6, 1, "write", 3, 59, 7);
            refused(5, 5, "tray", 3, sort, 61);
            refused(5, 5, "tray", 3, sort, MOST);
            refused(5, 6, "tray", 3, sort, -1);
            refused(5, 6, "tray", 3, sort, LEAST);
            refused(5, 5, "tray", 0, sort, 61);
            refused(5, 6, "tray", 0, sort, -1);
            due(7, 7, "read", 3, 59);
            refused(7, 4, "read", 3, 60);
            due(5, 1, "tray", 3, sort, 0);
            refused(7, 4, "read", 3, 0);
        }
    }

    // "all 0", whatever stood there
    private static void allZeros() {
        fresh();
        due(5, 1, "tray", 1, 3, 60);
        for (int i = 0; i < 60; i++) {
            due(6, 1, "write", 1, i, -5 - i);
        }
        due(5, 1, "tray", 1, 3, 1);
        due(7, 0, "read", 1, 0);
        due(5, 1, "tray", 1, 3, 60);
        for (int i = 0; i < 60; i++) {
            due(5, 0, "read", 1, i);
        }
    }

    // The TRAYS beside it stay.
    private static void besideIt() {
        fresh();
        for (int tray = 0; tray <= 3; tray++) {
            due(5, 1, "tray", tray, 3, 60);
            due(6, 1, "write", tray, 0, -5 - tray);
            due(6, 1, "write", tray, 59, -15 - tray);
        }
        due(5, 1, "tray", 1, 3, 60);
        for (int tray = 0; tray <= 3; tray += tray == 0 ? 2 : 1) {
            due(5, -5 - tray, "read", tray, 0);
            due(5, -15 - tray, "read", tray, 59);
        }
        due(5, 0, "read", 1, 0);
        due(5, 0, "read", 1, 59);
    }

    // "(1; 5; 6)": of an answer that two hold of, the first.
    private static void orderOfTray() {
        fresh();
        refused(5, 1, "tray", 4, 0, 61);
        refused(5, 1, "tray", 4, 0, -1);
        refused(5, 1, "tray", 0, 4, 61);
        refused(5, 1, "tray", 0, -1, -1);
        refused(5, 1, "tray", -1, -1, 5);
    }

    // 4: a place that the TRAY has not; asked behind 1 and 3.
    private static void places() {
        for (int size : new int[] {1, 2, 60}) {
            fresh();
            due(5, 1, "tray", 1, 3, size);
            due(5, 1, "tray", 2, 3, 60);
            due(6, 1, "write", 1, 0, 8);
            due(6, 1, "write", 1, size - 1, 9);
            due(7, 9, "read", 1, size - 1);
            due(7, size == 1 ? 9 : 8, "read", 1, 0);
            for (int place : new int[] {-1, size, LEAST, MOST}) {
                refused(6, 4, "write", 1, place, 5);
                refused(7, 4, "read", 1, place);
                refused(6, 3, "write", 0, place, 5);
                refused(7, 3, "read", 0, place);
                refused(6, 1, "write", 4, place, 5);
                refused(7, 1, "read", -1, place);
            }
        }
    }

    // "STATUS tells NONE from -1"
    private static void noneAndMinusOne() {
        fresh();
        due(5, 1, "tray", 0, 1, 1);
        due(6, 1, "write", 0, 0, -1);
        due(7, -1, "read", 0, 0);
        refused(7, 4, "read", 0, 1);
        due(7, -1, "read", 0, 0);
    }

    private static void rows() {
        fresh();
        due(8, 1, "tray", 0, 3, 5);
        due(8, 1, "tray", 1, 3, 4);
        for (int i = 0; i < 5; i++) {
            due(8, 1, "write", 0, i, i + 1);
        }
    }

    private static void row(int tray, long... due) {
        for (int i = 0; i < due.length; i++) {
            due(8, due[i], "read", tray, i);
        }
    }

    // "4 (with 0 numbers, too, if a place is above how many there are)"
    private static void pourLengths() {
        rows();
        due(8, 1, "pour", 0, 5, 1, 4, 0);
        due(8, 1, "pour", 0, 0, 1, 0, 0);
        row(1, 0, 0, 0, 0);
        refused(8, 4, "pour", 0, 6, 1, 0, 0);
        refused(8, 4, "pour", 0, 0, 1, 5, 0);
        refused(8, 4, "pour", 0, -1, 1, 0, 0);
        refused(8, 4, "pour", 0, 0, 1, -1, 0);
        refused(8, 4, "pour", 0, 5, 1, 0, 1);
        refused(8, 4, "pour", 0, 0, 1, 4, 1);
        refused(8, 4, "pour", 0, 2, 1, 0, 4);
        refused(8, 4, "pour", 0, 0, 1, 1, 4);
        refused(8, 4, "pour", 0, 0, 1, 0, 5);
        refused(8, 4, "pour", 1, 0, 0, 0, 5);
        refused(8, 4, "pour", 0, 0, 0, 0, 6);
        for (int far : new int[] {LEAST, MOST}) {
            refused(8, 4, "pour", 0, far, 1, 0, 1);
            refused(8, 4, "pour", 0, 0, 1, far, 1);
            refused(8, 4, "pour", 0, far, 1, far, 0);
        }
        refused(8, 4, "pour", 0, 1, 1, 0, MOST);
        refused(8, 4, "pour", 0, 5, 1, 4, MOST);
        due(8, 1, "pour", 0, 4, 1, 3, 1);
        row(1, 0, 0, 0, 5);
        due(8, 1, "pour", 0, 1, 1, 0, 4);
        row(1, 2, 3, 4, 5);
        due(8, 1, "pour", 0, 0, 0, 0, 5);
        row(0, 1, 2, 3, 4, 5);
    }

    // "of another one, or the same, as they were"
    private static void pourAsTheyWere() {
        rows();
        due(8, 1, "pour", 0, 0, 0, 1, 4);
        row(0, 1, 1, 2, 3, 4);
        rows();
        due(8, 1, "pour", 0, 1, 0, 0, 4);
        row(0, 2, 3, 4, 5, 5);
        rows();
        due(8, 1, "pour", 0, 1, 0, 2, 2);
        row(0, 1, 2, 2, 3, 5);
        rows();
        due(8, 1, "pour", 0, 3, 1, 1, 2);
        row(1, 0, 4, 5, 0);
        row(0, 1, 2, 3, 4, 5);
    }

    // "1, 3 (either), 11, 6, 4 .., asked in this order"
    private static void pourOrder() {
        for (int missing = 2; missing <= 3; missing++) {
            rows();
            due(8, 1, "tray", 5 - missing, 0, 5);
            int unlike = 5 - missing;
            refused(8, 1, "pour", 4, 0, missing, 0, 1);
            refused(8, 1, "pour", missing, 0, -1, 0, 1);
            refused(8, 1, "pour", 4, 9, unlike, 9, -1);
            refused(8, 3, "pour", missing, 9, 0, 9, -1);
            refused(8, 3, "pour", 0, 9, missing, 9, -1);
            refused(8, 3, "pour", unlike, 0, missing, 0, 1);
            refused(8, 11, "pour", 0, 9, unlike, 0, -1);
            refused(8, 11, "pour", unlike, 0, 0, 9, 1);
            refused(8, 11, "pour", 0, 0, unlike, 0, 0);
            refused(8, 6, "pour", 0, 9, 1, 0, -1);
            refused(8, 6, "pour", 0, 0, 1, -1, LEAST);
            refused(8, 6, "pour", 0, 0, 0, 0, -1);
        }
        for (int from = 0; from <= 3; from++) {
            fresh();
            due(8, 1, "tray", 0, from, 1);
            for (int to = 0; to <= 3; to++) {
                due(8, 1, "tray", 1, to, 1);
                if (from == to) {
                    due(8, 1, "pour", 0, 0, 1, 0, 1);
                } else {
                    refused(8, 11, "pour", 0, 0, 1, 0, 1);
                }
            }
        }
    }

    // Promise 16: "(1; 3; 4)", 4: too few numbers
    private static void coinsFit() {
        fresh("person ann coins 127;person bob coins 128;person cid coins 9999;");
        refused(16, 3, "copyCoins", 0);
        due(16, 1, "tray", 0, 0, 2);
        due(16, 1, "tray", 1, 0, 3);
        due(16, 1, "tray", 2, 1, 4);
        due(16, 1, "write", 2, 3, 77);
        refused(16, 4, "copyCoins", 0);
        due(16, 1, "tray", 0, 0, 0);
        refused(16, 4, "copyCoins", 0);
        due(16, 3, "copyCoins", 1);
        row(1, 127, -128, 15);
        due(16, 3, "copyCoins", 2);
        row(2, 127, 128, 9999, 77);
        due(16, -1, "earn", 0, -128);
        due(16, 3, "copyCoins", 1);
        row(1, -1, -128, 15);
        due(16, 0, "city", 0);
        due(16, 0, "copyCoins", 0);
        due(16, 0, "copyCoins", 1);
        row(1, -1, -128, 15);
    }

    // Nothing is written beside the TRAY, nor behind the COINS in it.
    private static void coinsOnly() {
        fresh("person ann coins 0;person bob coins 128;person cid coins 9999;");
        due(16, -1, "earn", 0, -1);
        for (int tray = 0; tray <= 2; tray++) {
            due(5, 1, "tray", tray, 3, 60);
            due(6, 1, "write", tray, 0, 70 + tray);
            due(6, 1, "write", tray, 3, 80 + tray);
            due(6, 1, "write", tray, 59, 90 + tray);
        }
        due(16, 3, "copyCoins", 1);
        due(7, 70, "read", 0, 0);
        due(7, 90, "read", 0, 59);
        row(1, -1, 128, 9999, 81);
        due(7, 91, "read", 1, 59);
        due(7, 72, "read", 2, 0);
    }
}
