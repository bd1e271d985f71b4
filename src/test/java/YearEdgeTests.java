/** The edges that promises 51 to 55 name, and how YEARS are LIVED, what MARKS keep, as the Terms tell it. */
public final class YearEdgeTests extends Trial {
    private static final String CITY = "jurors 3;penalty 40;person ann;person bob;person cid;deed lie of bob fine 100 odds 10;"
            + "deed a of bob fine 60 odds 10;";
    // 298 STEPS, each round of three earned.
    private static final String NEARLY = "loop 99;earn ann 1;earn ann 1;earn ann 1;end;";
    private static final int ANN = 0;
    private static final int BOB = 1;
    private static final int CID = 2;

    private YearEdgeTests() {
    }

    public static void main(String[] args) {
        seeds();
        whatLivedTells();
        livedStays();
        charges();
        drops();
        anybody();
        anyWithout();
        lastOnes();
        earnings();
        asItIsByThen();
        tests();
        comparisons();
        loops();
        loopsInLoops();
        stops();
        threeHundred();
        leftByWhens();
        leftByLoops();
        staysSo();
        meanNumbers();
        meanOfSeeds();
        meanChangesNothing();
        marksAtMost();
        marksKeepAll();
        marksDoNotKeep();
        marksInTurn();
        noYears();
        Check.end("YearEdgeTests");
    }

    private static void years(String text) {
        Check.promise(51);
        Check.that("the years are taken: " + text, story.years(text) >= 0 && story.status() == 0);
    }

    private static void lives(int seed, int steps, int missed, int heard, int won, int owed, int left) {
        due(51, steps, "live", seed);
        int[] facts = {missed, heard, won, owed, left};
        for (int what = 0; what < 5; what++) {
            due(52, facts[what], "lived", what);
        }
    }

    // Promise 51: "(5; 8: no YEARS)", "a seed (0 to 9,999)"
    private static void seeds() {
        fresh(CITY);
        for (int seed : new int[] {-1, 10000, LEAST, MOST}) {
            refused(51, 5, "live", seed);
        }
        refused(51, 8, "live", 0);
        refused(51, 8, "live", 9999);
        years("earn ann 1;");
        for (int seed : new int[] {-1, 10000, LEAST, MOST}) {
            refused(51, 5, "live", seed);
        }
        due(51, 1, "live", 0);
        due(51, 1, "live", 9999);
        due(51, 102, "person", ANN, 0);
        due(10, 2, "city", story.feed(CITY));
        refused(51, 8, "live", 0);
    }

    // Promise 52: "(5; 8: there was none)"
    private static void whatLivedTells() {
        fresh(CITY);
        for (int what : new int[] {-1, 5, LEAST, MOST}) {
            refused(52, 5, "lived", what);
        }
        for (int what = 0; what < 5; what++) {
            refused(52, 8, "lived", what);
        }
        refused(51, 8, "live", 0);
        years("any;");
        refused(52, 8, "lived", 0);
        due(53, 1, "mean", 0, 1);
        refused(52, 8, "lived", 4);
        lives(0, 1, 1, 0, 0, 0, 0);
        for (int what : new int[] {-1, 5, LEAST, MOST}) {
            refused(52, 5, "lived", what);
        }
    }

    private static void livedIs(int missed, int heard, int won, int owed, int left) {
        int[] facts = {missed, heard, won, owed, left};
        for (int what = 0; what < 5; what++) {
            due(52, facts[what], "lived", what);
        }
    }

    // "Of live() latest with STATUS 0, whatever came since"
    private static void livedStays() {
        fresh(CITY);
        due(54, 1, "mark");
        years("charge bob lie;charge ann lie;charge cid a;" + "stop;");
        lives(0, 4, 1, 2, 2, 0, 0);
        refused(51, 5, "live", -1);
        livedIs(1, 2, 2, 0, 0);
        due(53, 1, "mean", 0, 20);
        livedIs(1, 2, 2, 0, 0);
        due(17, 0, "years", 0);
        livedIs(1, 2, 2, 0, 0);
        due(21, 1, "reopen", 0);
        due(17, 200, "charge", ANN, 0, 2);
        livedIs(1, 2, 2, 0, 0);
        due(55, 0, "back");
        livedIs(1, 2, 2, 0, 0);
        due(10, 0, "city", 0);
        livedIs(1, 2, 2, 0, 0);
        refused(51, 8, "live", 0);
        livedIs(1, 2, 2, 0, 0);
        due(11, 0, "years", 0);
        due(51, 0, "live", 0);
        livedIs(0, 0, 0, 0, 0);
    }

    // "MISSED: a charge .. that can't be made (its JURORS do not vote)"; draws as of seed 0: 14, 2, 1, 1, 9, 11
    private static void charges() {
        fresh(CITY);
        years("charge bob lie;charge bob a;charge ann lie;charge cid lie;charge cid a;charge ann a;");
        lives(0, 6, 4, 2, 2, 0, 0);
        due(15, ANN, "deed", 0, 4);
        due(15, 2, "deed", 0, 5);
        due(15, 1, "deed", 0, 3);
        due(15, CID, "deed", 1, 4);
        due(15, 2, "deed", 1, 5);
        due(51, 150, "person", ANN, 0);
        due(51, 130, "person", CID, 0);
        due(51, -60, "person", BOB, 0);
        due(51, 80, "many", 6);
        due(51, 2, "many", 10);
        // A RUINED one's charge is MISSED, too, and one of a DEED that was dropped.
        fresh(CITY);
        due(23, -1, "earn", ANN, -101);
        due(19, 100, "drop", CID, 0, 0);
        years("charge ann lie;charge cid lie;charge cid a;");
        lives(0, 3, 2, 1, 1, 0, 0);
        due(15, 2, "deed", 1, 5);
        // The PENALTY is owed by none of the votes.
        fresh(CITY);
        due(22, 1, "train", BOB, 9);
        years("charge ann lie;");
        lives(0, 1, 0, 1, 0, 1, 0);
        due(51, 60, "person", ANN, 0);
        due(51, 40, "many", 6);
        due(14, 1, "person", ANN, 3);
        fresh(CITY);
        due(22, 1, "train", BOB, 8);
        years("charge ann lie;");
        lives(0, 1, 0, 1, 0, 0, 0);
        due(15, 1, "deed", 0, 5);
    }

    // "drop: for 0 to 9,999"; MISSED: "a drop that can't be"
    private static void drops() {
        fresh(CITY);
        years("drop ann lie for 101;drop ann lie for 100;drop ann lie for 0;drop cid lie for 1;drop cid lie for 0;"
                + "drop bob a for 0;");
        lives(0, 6, 4, 0, 0, 0, 0);
        due(51, 200, "person", ANN, 0);
        due(51, 0, "person", BOB, 0);
        due(51, 1, "person", ANN, 5);
        due(51, 1, "person", CID, 5);
        fresh(CITY);
        due(23, 9999, "earn", BOB, 9899);
        years("drop ann a for 9999;charge ann a;");
        lives(0, 2, 1, 0, 0, 0, 0);
        due(51, 10099, "person", ANN, 0);
        fresh(CITY);
        due(23, -1, "earn", ANN, -101);
        years("drop ann lie for 0;");
        lives(0, 1, 1, 0, 0, 0, 0);
    }

    // "any: a PERSON by a draw by how many there are charges a DEED by a draw by how many there are (both draws first)"
    private static void anybody() {
        fresh(CITY);
        // Of seed 0 s by 8 is 1342, 34, 5537, 4833, 7801, 4059, 3492: BOB his own; then CID the second: 9, 11, 4.
        years("any;any;");
        lives(0, 2, 1, 1, 1, 0, 0);
        due(15, CID, "deed", 1, 4);
        due(15, 2, "deed", 1, 5);
        due(15, 0, "deed", 0, 3);
        due(51, 130, "person", CID, 0);
        // Of seed 2 they are 2085, 3096, 2170, 3165, 884: ANN the first; 10, 13, 4.
        fresh(CITY);
        years("any;");
        lives(2, 1, 0, 1, 0, 0, 0);
        due(15, ANN, "deed", 0, 4);
        due(15, 1, "deed", 0, 5);
        due(15, 2, "deed", 0, 3);
        // A RUINED one draws both, too.
        fresh(CITY);
        due(23, -1, "earn", BOB, -101);
        years("any;any;");
        lives(0, 2, 1, 1, 1, 0, 0);
        due(15, CID, "deed", 1, 4);
        due(15, 2, "deed", 1, 5);
        // By how many there are: with a fourth and a third one 2085 leaves 1, 3096 leaves 0.
        fresh(CITY + "person dot;");
        due(20, 2, "commit", ANN, 9, 16);
        years("any;any;");
        // BOB his own; then of 2170, 3165 CID, the first: 4, 13, 1.
        lives(2, 2, 1, 1, 1, 0, 0);
        due(15, CID, "deed", 0, 4);
        due(15, 2, "deed", 0, 5);
    }

    // "any without PEOPLE or DEEDS (no draws)"
    private static void anyWithout() {
        fresh();
        years("any;any;");
        lives(9999, 2, 2, 0, 0, 0, 0);
        fresh("person ann;");
        years("any;");
        lives(0, 1, 1, 0, 0, 0, 0);
        fresh("person ann;deed lie of ann fine 1 odds 1;");
        years("any;any;any;");
        lives(0, 3, 3, 0, 0, 0, 0);
        // One DEED is drawn, too: of seed 0 ANN, 0; then 1, 1, 9 are left for the JURORS.
        fresh("jurors 3;person ann;person bob;deed lie of bob fine 1 odds 3;");
        years("any;");
        lives(0, 1, 0, 1, 1, 0, 0);
        due(15, 2, "deed", 0, 5);
    }

    private static final String FULL = "jurors 9;fifth 2;penalty 40;" + times("person p#;", 8)
            + times("deed # of pa fine 1 odds 9;", 10);

    // Of as many PEOPLE, DEEDS and JURORS as there can be
    private static void lastOnes() {
        // Of seed 145 PERSON 7, DEED 9; then 4, 1, 12, 6, 1, 0, 1, 13, 14.
        fresh(FULL);
        years("any;");
        lives(145, 1, 0, 1, 1, 0, 0);
        due(15, 7, "deed", 9, 4);
        due(15, 6, "deed", 9, 5);
        // Of seed 152 the same two; then 10, 4, 10, 6, 13, 5, 5, 15, 0.
        fresh(FULL);
        years("any;");
        due(22, 1, "train", 0, 8);
        lives(152, 1, 0, 1, 0, 1, 0);
        due(15, 1, "deed", 9, 5);
        fresh(FULL);
        years("charge ph j;drop pg i for 7;earn ph 5;when open i;earn pg 3;end;when open j;earn pg 1;end;when coins ph > 104;"
                + "earn pb 2;end;when ruined ph;any;end;");
        // By seed 0: 14, 2, 1, 1, 9, 11, 4, 2, 4.
        lives(0, 9, 0, 1, 1, 0, 0);
        due(15, 7, "deed", 9, 4);
        due(15, 6, "deed", 9, 5);
        due(51, 110, "person", 6, 0);
        due(51, 256, "person", 6, 5);
        due(51, 102, "person", 1, 0);
        due(51, 105, "person", 7, 0);
        due(51, 92, "person", 0, 0);
    }

    // "earn: 1 to 999 COINS", by RUINED ones, too
    private static void earnings() {
        fresh(CITY);
        due(23, -900, "earn", ANN, -1000);
        years("earn ann 1;earn ann 898;earn bob 999;when ruined ann;earn ann 999;end;");
        lives(0, 5, 0, 0, 0, 0, 0);
        due(51, 998, "person", ANN, 0);
        due(51, 1099, "person", BOB, 0);
        due(51, 0, "many", 6);
    }

    // The YEARS go by what was done since: JURORS, FIFTH, PENALTY, SHARE, SKILL, COINS, DEEDS as they are.
    private static void asItIsByThen() {
        fresh(CITY);
        years("charge ann lie;charge cid a;");
        due(24, 1, "rule", 0, 1);
        due(24, 1, "rule", 3, 16);
        // Of seed 0: 14, 2.
        lives(0, 2, 0, 2, 1, 1, 0);
        due(51, 60, "person", ANN, 0);
        due(51, 160, "person", CID, 0);
        due(51, 40, "many", 6);
        due(21, 1, "reopen", 0);
        due(21, 1, "reopen", 1);
        due(24, 1, "rule", 2, 5);
        due(22, 1, "train", ANN, 5);
        due(22, 1, "train", CID, 9);
        due(24, 1, "rule", 1, 0);
        lives(0, 2, 0, 2, 2, 0, 0);
        due(21, 1, "reopen", 0);
        due(22, 1, "train", BOB, 16);
        due(24, 1, "rule", 1, 9);
        due(24, 1, "rule", 0, 9);
        due(51, 160, "person", ANN, 0);
        lives(0, 2, 1, 1, 0, 1, 0);
        due(51, 155, "person", ANN, 0);
    }

    // "when TEST: open NAME, or ruined NAME"
    private static void tests() {
        fresh(CITY);
        years("when open lie;earn ann 1;end;when ruined bob;earn ann 2;end;when open a;earn ann 4;end;");
        lives(0, 5, 0, 0, 0, 0, 0);
        due(51, 105, "person", ANN, 0);
        due(17, 105, "charge", ANN, 0, 1);
        due(23, 0, "earn", BOB, -100);
        due(51, 4, "live", 0);
        due(51, 109, "person", ANN, 0);
        due(23, -1, "earn", BOB, -1);
        due(51, 5, "live", 0);
        due(51, 115, "person", ANN, 0);
        due(17, 145, "charge", ANN, 1, 3);
        due(51, 4, "live", 0);
        due(51, 147, "person", ANN, 0);
    }

    // "coins NAME COMPARES NUMBER .. when coins: 0 to 9,999"
    private static void comparisons() {
        int[][] cases = {{0, -1}, {0, 0}, {0, 1}, {100, 99}, {100, 100}, {100, 101}, {9999, 9998}, {9999, 9999},
            {9999, 10000}};
        for (int[] c : cases) {
            fresh(CITY);
            int now = c[1];
            due(23, now > 9999 ? 9999 : now, "earn", BOB, Math.min(now, 9999) - 100);
            if (now > 9999) {
                due(23, now, "earn", BOB, now - 9999);
            }
            years("when coins bob<" + c[0] + ";earn ann 1;end;when coins bob > " + c[0] + ";earn ann 2;end;when coins bob="
                    + c[0] + ";earn ann 4;end;");
            due(51, 4, "live", 0);
            due(51, 100 + (now < c[0] ? 1 : now > c[0] ? 2 : 4), "person", ANN, 0);
        }
    }

    // "loop n (1 to 99): as often"
    private static void loops() {
        for (int n : new int[] {1, 2, 98, 99}) {
            fresh(CITY);
            years("loop " + n + ";earn ann 1;end;earn bob 1;");
            lives(0, n + 2, 0, 0, 0, 0, 0);
            due(51, 100 + n, "person", ANN, 0);
            due(51, 101, "person", BOB, 0);
            // Again from ahead, as often.
            due(51, n + 2, "live", 0);
            due(51, 100 + 2 * n, "person", ANN, 0);
        }
        fresh(CITY);
        years("loop 99;end;loop 99;when ruined ann;any;end;end;");
        lives(0, 1 + 1 + 99, 0, 0, 0, 0, 0);
    }

    // "(when, loop count as one each time they are come to from ahead; end does not)"
    private static void loopsInLoops() {
        fresh(CITY);
        years("loop 2;loop 3;loop 4;earn ann 1;end;earn bob 1;end;earn cid 1;end;");
        lives(0, 1 + 2 * (1 + 3 * (1 + 4 + 1) + 1), 0, 0, 0, 0, 0);
        due(51, 124, "person", ANN, 0);
        due(51, 106, "person", BOB, 0);
        due(51, 102, "person", CID, 0);
        fresh(CITY);
        years("loop 3;when open lie;loop 2;earn ann 1;end;charge ann lie;end;end;");
        lives(0, 1 + 3 + 1 + 2 + 1, 0, 1, 1, 0, 0);
        due(51, 152, "person", ANN, 0);
    }

    // "stop: no more is done."
    private static void stops() {
        fresh(CITY);
        years("earn ann 1;stop;earn ann 2;");
        lives(0, 2, 0, 0, 0, 0, 0);
        due(51, 101, "person", ANN, 0);
        years("loop 9;earn ann 1;when open lie;stop;end;end;any;");
        lives(0, 4, 0, 0, 0, 0, 0);
        due(51, 102, "person", ANN, 0);
        // The rounds that a stop left are none of what comes later.
        years("when open lie;earn ann 1;end;");
        lives(0, 2, 0, 0, 0, 0, 0);
        years("loop 2;earn ann 1;end;");
        lives(0, 3, 0, 0, 0, 0, 0);
        due(23, 102, "earn", ANN, -3);
        years("when ruined ann;stop;end;earn ann 1;stop;");
        lives(0, 3, 0, 0, 0, 0, 0);
        due(51, 103, "person", ANN, 0);
        years("stop;");
        lives(0, 1, 0, 0, 0, 0, 0);
    }

    private static void nearly(String more, int steps, int missed, int left) {
        fresh("person ann;person bob;deed lie of bob fine 1 odds 0;");
        due(19, 100, "drop", ANN, 0, 0);
        years(NEARLY + more);
        lives(0, steps, missed, 0, 0, 0, left);
        due(51, 100 + 297, "person", ANN, 0);
    }

    // "At most 300 STEPS"; "1 if a STEP was left to be done (by the 300 alone, not by stop), else 0"
    private static void threeHundred() {
        String miss = "charge ann lie;";
        nearly("", 298, 0, 0);
        nearly(miss, 299, 1, 0);
        nearly(miss + miss, 300, 2, 0);
        nearly(miss + miss + miss, 300, 2, 1);
        nearly(miss + miss + miss + miss, 300, 2, 1);
        nearly(miss + "stop;", 300, 1, 0);
        nearly(miss + "stop;" + miss, 300, 1, 0);
        nearly("stop;" + miss + miss + miss, 299, 0, 0);
        nearly(miss + miss + "stop;", 300, 2, 1);
        nearly(miss + miss + "loop 1;end;", 300, 2, 1);
        nearly(miss + miss + "when ruined ann;end;", 300, 2, 1);
    }

    private static void leftByWhens() {
        String miss = "charge ann lie;";
        nearly(miss + "when ruined ann;" + miss + "end;", 300, 1, 0);
        nearly(miss + "when ruined ann;" + miss + "end;" + miss, 300, 1, 1);
        nearly(miss + "when open lie;end;", 300, 1, 0);
        nearly(miss + "when open lie;" + miss + "end;", 300, 1, 1);
        nearly("when open lie;" + miss + "end;", 300, 1, 0);
        nearly("when open lie;" + miss + "end;" + miss, 300, 1, 1);
    }

    private static void leftByLoops() {
        String miss = "charge ann lie;";
        nearly(miss + "loop 99;end;", 300, 1, 0);
        nearly(miss + "loop 99;end;" + miss, 300, 1, 1);
        nearly(miss + "loop 99;" + miss + "end;", 300, 1, 1);
        nearly("loop 1;" + miss + "end;", 300, 1, 0);
        nearly("loop 2;" + miss + "end;", 300, 1, 1);
        nearly("loop 1;loop 99;end;end;", 300, 0, 0);
        nearly("loop 2;loop 99;end;end;", 300, 0, 1);
        fresh(CITY);
        years("loop 99;loop 99;earn ann 1;end;end;");
        lives(0, 300, 0, 0, 0, 0, 1);
        due(51, 100 + 99 + 99 + 98, "person", ANN, 0);
        fresh(CITY);
        years("loop 3;loop 98;earn ann 1;end;end;stop;stop;");
        lives(0, 1 + 3 * 99 + 1, 0, 0, 0, 0, 0);
        fresh(CITY);
        years("loop 99;loop 99;loop 99;end;end;end;");
        lives(0, 300, 0, 0, 0, 0, 1);
    }

    // "LIVED by a seed: all is as it becomes by it, and stays so"
    private static void staysSo() {
        fresh(CITY);
        years("charge ann lie;earn cid 7;earn bob 9;drop cid a for 5;");
        lives(0, 4, 0, 1, 1, 0, 0);
        long[] facts = {3, 2, 3, 1, 40, 8, 50, 2, 1, 0, 1};
        for (int what = 0; what < 11; what++) {
            due(51, facts[what], "many", what);
        }
        due(51, 150, "person", ANN, 0);
        due(51, 4, "person", BOB, 0);
        due(51, 112, "person", CID, 0);
        due(51, 2, "person", CID, 5);
        // The YEARS are there still.
        lives(0, 4, 2, 0, 0, 0, 0);
        due(51, 119, "person", CID, 0);
        // By the same seed the same draws: 14, 2, 1
        fresh(CITY);
        due(22, 1, "train", BOB, 7);
        years("charge ann lie;");
        for (int time = 0; time < 3; time++) {
            due(54, 1, "mark");
            lives(0, 1, 0, 1, 1, 0, 0);
            due(15, 2, "deed", 0, 5);
            due(55, 0, "back");
        }
    }

    // Promise 53: "by so many seeds (1 to 20) from one on", "(5: the last above 9,999, too; 8)"
    private static void meanNumbers() {
        long[][] wrong = {{-1, 1}, {10000, 1}, {0, 0}, {0, 21}, {0, -1}, {9999, 2}, {9981, 20}, {9999, 0}, {-1, 20},
            {LEAST, 1}, {MOST, 1}, {0, LEAST}, {0, MOST}, {9999, MOST}, {MOST, MOST}};
        fresh(CITY);
        for (long[] w : wrong) {
            refused(53, 5, "mean", w);
        }
        refused(53, 8, "mean", 0, 1);
        refused(53, 8, "mean", 9980, 20);
        years("charge ann lie;");
        for (long[] w : wrong) {
            refused(53, 5, "mean", w);
        }
        for (long[] right : new long[][] {{0, 1}, {0, 20}, {9999, 1}, {9998, 2}, {9980, 20}}) {
            due(53, 1, "mean", right);
        }
    }

    private static void meanOfSeeds() {
        fresh("jurors 1;penalty 40;person ann;person bob;deed lie of bob fine 100 odds 4;");
        years("charge ann lie;");
        // By each seed 50 or 40, if its first draw by 16 is below 4 or not.
        long[][] cases = {{0, 1, 40, 1}, {0, 2, 45, 1}, {0, 20, 85, 2}, {9979, 20, 85, 2}, {9980, 20, 43, 1},
            {9999, 1, 50, 1}, {20, 1, 50, 1}, {19, 1, 40, 1}, {19, 2, 45, 1}};
        for (long[] c : cases) {
            fraction(53, c[2], c[3], "mean", c[0], c[1]);
        }
        // On top of what is in the TREASURY.
        due(20, 1, "commit", BOB, 3, 4);
        due(17, 60, "charge", ANN, 1, 0);
        fraction(53, 80 + 5, 1, "mean", 0, 2);
        years("");
        fraction(53, 40, 1, "mean", 0, 20);
        fresh();
        years("any;");
        fraction(53, 0, 1, "mean", 7, 3);
    }

    // "(all stays as it is)": what due() looks at of every question, here with all that there is.
    private static void meanChangesNothing() {
        fresh(CITY);
        due(5, 1, "tray", 0, 0, 2);
        due(54, 1, "mark");
        years("any;any;drop cid lie for 3;earn ann 5;loop 3;any;end;");
        due(51, 8, "live", 5);
        story.feed("person ann;");
        due(53, 1, "mean", 0, 20);
        due(53, 1, "mean", 9999, 1);
    }

    // Promise 54: "MARKS, at most 3", "(7)"; promise 55: "(8)"
    private static void marksAtMost() {
        fresh(CITY);
        refused(55, 8, "back");
        for (int m = 1; m <= 3; m++) {
            due(54, m, "mark");
        }
        refused(54, 7, "mark");
        due(55, 2, "back");
        due(54, 3, "mark");
        refused(54, 7, "mark");
        for (int m = 2; m >= 0; m--) {
            due(55, m, "back");
        }
        refused(55, 8, "back");
        due(54, 1, "mark");
        due(55, 0, "back");
        refused(55, 8, "back");
        fresh();
        due(54, 1, "mark");
        due(10, 2, "city", story.feed(CITY));
        due(55, 0, "back");
        due(55, 0, "many", 0);
        refused(51, 8, "live", 0);
    }

    private static Story livedIn() {
        fresh(CITY);
        due(51, 3, "years", story.feed("earn ann 1;loop 2;any;end;"));
        due(17, 130, "charge", CID, 1, 2);
        due(19, 140, "drop", ANN, 0, 40);
        due(20, 2, "commit", CID, 31, 16);
        due(17, 100, "charge", ANN, 2, 0);
        due(22, 1, "train", BOB, 3);
        due(24, 1, "rule", 0, 4);
        fraction(3, 0, 1, "plan", 0, 0);
        return story;
    }

    private static void change(int what) {
        switch (what) {
            case 0:
                due(17, 130, "charge", ANN, 1, 3);
                break;
            case 1:
                due(19, 130, "drop", CID, 0, 0);
                break;
            case 2:
                due(20, 3, "commit", BOB, 1, 1);
                break;
            case 3:
                due(21, 1, "reopen", 1);
                break;
            case 4:
                due(22, 1, "train", BOB, 4);
                break;
            case 5:
                due(23, 107, "earn", ANN, 7);
                break;
            case 6:
                due(17, 60, "charge", ANN, 1, 0);
                break;
            case 14:
                due(21, 1, "reopen", 2);
                due(17, 15, "charge", BOB, 2, 4);
                break;
            case 11:
                due(11, 1, "years", story.feed("any;"));
                break;
            case 12:
                due(10, 0, "city", story.feed("person bob;"));
                break;
            case 13:
                due(10, 0, "city", 0);
                break;
            default:
                due(24, 1, "rule", what - 7, 9 - what % 4);
                break;
        }
    }

    // "the CITY with all that became of it, the YEARS are kept as they are; all is taken back"
    private static void marksKeepAll() {
        for (int what = 0; what <= 14; what++) {
            livedIn();
            if (what == 0 || what == 6) {
                due(21, 1, "reopen", 1);
            }
            due(54, 1, "mark");
            change(what);
            due(55, 0, "back");
            Story changed = story;
            livedIn();
            if (what == 0 || what == 6) {
                due(21, 1, "reopen", 1);
            }
            // What fault() tells is not taken back: the same is told here.
            if (what > 10) {
                due(11, 3, "years", story.feed("earn ann 1;loop 2;any;end;"));
            }
            Check.promise(55);
            String seen = changed.changeFrom(story);
            Check.that("change " + what + " leaves " + seen, seen.isEmpty());
        }
    }

    // TRAYS, the tape, the FRACTION, what fault() and lived() tell are no part of a MARK.
    private static void marksDoNotKeep() {
        fresh(CITY);
        years("earn ann 1;");
        due(54, 1, "mark");
        due(5, 1, "tray", 0, 0, 1);
        due(6, 1, "write", 0, 0, 5);
        due(51, 1, "live", 0);
        fraction(27, 27, 512, "votes", ANN, 0, 0);
        refused(12, 10, "years", story.feed("any?"));
        story.feed("any;");
        due(55, 0, "back");
        due(7, 5, "read", 0, 0);
        due(52, 0, "lived", 0);
        due(3, 27, "top");
        due(4, 512, "bottom");
        due(12, 1, "fault", 0);
        due(12, 3, "fault", 1);
        due(9, 40, "feed", 0, 0, 0, 0, 0);
        due(11, 1, "years", 4);
        due(55, 100, "person", ANN, 0);
    }

    // "taken back to the latest MARK, which is gone then"
    private static void marksInTurn() {
        fresh(CITY);
        for (int m = 1; m <= 3; m++) {
            due(54, m, "mark");
            due(23, 100 + m, "earn", ANN, 1);
        }
        refused(54, 7, "mark");
        for (int m = 2; m >= 0; m--) {
            due(55, m, "back");
            due(55, 100 + m, "person", ANN, 0);
            due(23, 150 + m, "earn", ANN, 50);
        }
        refused(55, 8, "back");
        due(55, 150, "person", ANN, 0);
    }

    // An empty text is YEARS of no STEPS: they are there.
    private static void noYears() {
        fresh();
        refused(51, 8, "live", 0);
        due(11, 0, "years", 0);
        lives(0, 0, 0, 0, 0, 0, 0);
        fraction(53, 0, 1, "mean", 0, 1);
        due(54, 1, "mark");
        due(10, 0, "city", 0);
        refused(51, 8, "live", 0);
        due(55, 0, "back");
        due(51, 0, "live", 0);
    }
}
