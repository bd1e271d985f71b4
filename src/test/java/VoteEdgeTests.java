/** The edges that promises 25 to 43 name, and what charges are worth as the Terms tell it. */
public final class VoteEdgeTests extends Trial {
    private static final String TWO = "person ann;person bob;deed lie of bob fine 100 odds 8;";
    // With one of the JURORS, CHANCE 8, no part for others: GAIN is half of what the FINE is above the PENALTY.
    private static final String HALF = "jurors 1;penalty 10;share 16;person ann;person bob;person cid;"
            + "deed a of bob fine 10 odds 8;deed b of bob fine 11 odds 8;deed c of bob fine 11 odds 8;"
            + "deed d of bob fine 10 odds 8;";
    // GAIN and LOSS are the FINE.
    private static final String SURE = "jurors 1;fifth 0;penalty 0;share 16;person ann;person bob;";
    private static final int ANN = 0;
    private static final int BOB = 1;
    private static final int CID = 2;

    private VoteEdgeTests() {
    }

    public static void main(String[] args) {
        chances();
        ofWhatCannotBeCharged();
        onesOwn();
        justSoMany();
        winning();
        owing();
        ruinedGainNothing();
        shareInTheMean();
        whateverCoins();
        fractions();
        gladAboveZero();
        firstOfSeveral();
        onlyWhatCanBeCharged();
        planned();
        dreadedLosses();
        friends();
        quietDeeds();
        tradeNumbers();
        tradeWhole();
        tradeRefusals();
        sharesAsked();
        finesAsked();
        penaltiesAsked();
        gladByOthers();
        Check.end("VoteEdgeTests");
    }

    // "ODDS and the accuser's SKILL less that of whose DEED it is (0 at least, 16 at most)"
    private static void chances() {
        int[][] cases = {{1, 0, 2, 0}, {2, 0, 2, 0}, {3, 0, 2, 1}, {0, 0, 16, 0}, {0, 0, 0, 0}, {16, 0, 0, 16},
            {15, 1, 0, 16}, {14, 1, 0, 15}, {16, 1, 0, 16}, {16, 16, 0, 16}, {16, 16, 16, 16}, {16, 16, 8, 16},
            {8, 16, 16, 8}, {16, 0, 16, 0}, {16, 0, 15, 1}, {0, 16, 0, 16}, {0, 1, 0, 1}, {0, 0, 1, 0}};
        for (int[] c : cases) {
            fresh("person ann skill " + c[1] + ";person bob skill " + c[2] + ";deed lie of bob fine 9 odds " + c[0] + ";");
            due(26, c[3], "chance", ANN, 0);
            // Of RUINED ones, and of what was HEARD or DROPPED, too.
            due(23, -9899, "earn", ANN, -9999);
            due(26, c[3], "chance", ANN, 0);
            due(23, 100, "earn", ANN, 9999);
            due(17, 0, "charge", ANN, 0, 0);
            due(26, c[3], "chance", ANN, 0);
        }
    }

    private static void votesAndWins() {
        due(26, 8, "chance", ANN, 0);
        fraction(27, 5, 32, "votes", ANN, 0, 1);
        fraction(28, 1, 2, "wins", ANN, 0);
        fraction(29, 1, 32, "owes", ANN, 0);
    }

    // "(Of charges that can't be made now, too, but by RUINED ones ..)": votes are told of these, too.
    private static void ofWhatCannotBeCharged() {
        fresh("share 8;" + TWO);
        due(23, -1, "earn", ANN, -101);
        votesAndWins();
        refused(30, 9, "gain", ANN, 0);
        refused(31, 9, "loss", ANN, 0);
        due(23, 0, "earn", ANN, 1);
        due(19, 0, "drop", ANN, 0, 0);
        votesAndWins();
        fraction(30, 175, 8, "gain", ANN, 0);
        fraction(31, 50, 1, "loss", ANN, 0);
    }

    // "(2; 9: one's own)", "(2; 5; 9: one's own)"
    private static void onesOwn() {
        fresh(TWO);
        refused(26, 9, "chance", BOB, 0);
        refused(27, 9, "votes", BOB, 0, 0);
        refused(27, 9, "votes", BOB, 0, 5);
        refused(27, 5, "votes", BOB, 0, 6);
        refused(27, 5, "votes", BOB, 0, -1);
        refused(28, 9, "wins", BOB, 0);
        refused(29, 9, "owes", BOB, 0);
        refused(30, 9, "gain", BOB, 0);
        refused(31, 9, "loss", BOB, 0);
        due(23, -1, "earn", BOB, -101);
        refused(30, 9, "gain", BOB, 0);
        refused(31, 9, "loss", BOB, 0);
    }

    private static long divisor(long a, long b) {
        return b == 0 ? a : divisor(b, a % b);
    }

    private static void reduced(int promise, long top, long bottom, String name, long... a) {
        long common = divisor(top, bottom);
        fraction(promise, top / common, bottom / common, name, a);
    }

    // Promise 27: 0 to JURORS; by CHANCE 8 each way of voting is as likely as another.
    private static void justSoMany() {
        long[] row = {1};
        for (int jurors = 1; jurors <= 9; jurors++) {
            long[] next = new long[jurors + 1];
            for (int k = 0; k <= jurors; k++) {
                next[k] = (k > 0 ? row[k - 1] : 0) + (k < jurors ? row[k] : 0);
            }
            row = next;
            fresh("jurors " + jurors + ";" + TWO + "deed a of bob fine 1 odds 0;deed b of bob fine 1 odds 16;");
            for (int votes : new int[] {-1, jurors + 1, LEAST, MOST}) {
                refused(27, 5, "votes", ANN, 0, votes);
            }
            for (int k = 0; k <= jurors; k++) {
                reduced(27, row[k], 1L << jurors, "votes", ANN, 0, k);
                fraction(27, k == 0 ? 1 : 0, 1, "votes", ANN, 1, k);
                fraction(27, k == jurors ? 1 : 0, 1, "votes", ANN, 2, k);
            }
        }
        fresh(TWO + "deed a of bob fine 1 odds 1;deed b of bob fine 1 odds 15;");
        due(24, 1, "rule", 0, 9);
        fraction(27, 1, 1L << 36, "votes", ANN, 1, 9);
        fraction(27, 38443359375L, 1L << 36, "votes", ANN, 1, 0);
        fraction(27, 38443359375L, 1L << 36, "votes", ANN, 2, 9);
        fraction(27, 1, 1L << 36, "votes", ANN, 2, 0);
        fraction(27, 135, 1L << 36, "votes", ANN, 1, 8);
    }

    // Promise 28: more than half of the JURORS
    private static void winning() {
        long[][] due = {{}, {1, 2}, {1, 4}, {1, 2}, {5, 16}, {1, 2}, {11, 32}, {1, 2}, {93, 256}, {1, 2}};
        for (int jurors = 1; jurors <= 9; jurors++) {
            fresh("jurors " + jurors + ";" + TWO + "deed a of bob fine 1 odds 0;deed b of bob fine 1 odds 16;");
            fraction(28, due[jurors][0], due[jurors][1], "wins", ANN, 0);
            fraction(28, 0, 1, "wins", ANN, 1);
            fraction(28, 1, 1, "wins", ANN, 2);
            due(23, -1, "earn", ANN, -101);
            fraction(28, due[jurors][0], due[jurors][1], "wins", ANN, 0);
        }
    }

    // Promise 29: fewer votes than FIFTH, but not if it is WON
    private static void owing() {
        long[][] ofNine = {{0, 1}, {1, 512}, {5, 256}, {23, 256}, {65, 256}, {1, 2}, {1, 2}, {1, 2}, {1, 2}, {1, 2}};
        long[][] ofFour = {{0, 1}, {1, 16}, {5, 16}, {11, 16}, {11, 16}, {11, 16}, {11, 16}, {11, 16}, {11, 16}, {11, 16}};
        long[][] ofOne = {{0, 1}, {1, 2}, {1, 2}, {1, 2}, {1, 2}, {1, 2}, {1, 2}, {1, 2}, {1, 2}, {1, 2}};
        for (int fifth = 0; fifth <= 9; fifth++) {
            fresh("jurors 9;fifth " + fifth + ";" + TWO + "deed a of bob fine 1 odds 0;deed b of bob fine 1 odds 16;");
            fraction(29, ofNine[fifth][0], ofNine[fifth][1], "owes", ANN, 0);
            fraction(29, fifth == 0 ? 0 : 1, 1, "owes", ANN, 1);
            fraction(29, 0, 1, "owes", ANN, 2);
            due(24, 1, "rule", 0, 4);
            fraction(29, ofFour[fifth][0], ofFour[fifth][1], "owes", ANN, 0);
            due(24, 1, "rule", 0, 1);
            fraction(29, ofOne[fifth][0], ofOne[fifth][1], "owes", ANN, 0);
        }
    }

    // Promises 30, 31: "9: one's own, RUINED"; "Of charges that can't be made now, too, but by RUINED ones"
    private static void ruinedGainNothing() {
        fresh("jurors 1;penalty 10;" + TWO);
        due(23, 0, "earn", ANN, -100);
        fraction(30, 20, 1, "gain", ANN, 0);
        fraction(31, 50, 1, "loss", ANN, 0);
        due(23, -1, "earn", ANN, -1);
        refused(30, 9, "gain", ANN, 0);
        refused(31, 9, "loss", ANN, 0);
        due(23, 0, "earn", ANN, 1);
        due(23, -1, "earn", BOB, -101);
        fraction(30, 20, 1, "gain", ANN, 0);
        fraction(31, 50, 1, "loss", ANN, 0);
        due(23, 0, "earn", BOB, 1);
        due(19, 0, "drop", ANN, 0, 0);
        fraction(30, 20, 1, "gain", ANN, 0);
        fraction(31, 50, 1, "loss", ANN, 0);
        due(20, 1, "commit", BOB, 100, 8);
        due(17, -10, "charge", ANN, 1, 0);
        refused(30, 9, "gain", ANN, 1);
        due(23, 0, "earn", ANN, 10);
        fraction(30, 20, 1, "gain", ANN, 1);
        fraction(31, 50, 1, "loss", ANN, 1);
    }

    // "his SHARE (rounded down) if it is WON, less the PENALTY if he owes it. LOSS: the FINE if it is WON."
    private static void shareInTheMean() {
        int[][] cases = {{15, 1, 0}, {16, 1, 1}, {31, 1, 1}, {33, 8, 16}, {999, 15, 936}, {1, 15, 0}, {1, 16, 1}, {9, 0, 0}};
        for (int[] c : cases) {
            fresh("jurors 1;penalty 0;share " + c[1] + ";person ann;person bob;deed lie of bob fine " + c[0] + " odds 8;");
            reduced(30, c[2], 2, "gain", ANN, 0);
            reduced(31, c[0], 2, "loss", ANN, 0);
            due(24, 1, "rule", 2, 999);
            long top = c[2] - 999;
            fraction(30, top % 2 == 0 ? top / 2 : top, top % 2 == 0 ? 1 : 2, "gain", ANN, 0);
            reduced(31, c[0], 2, "loss", ANN, 0);
            due(24, 1, "rule", 1, 0);
            reduced(30, c[2], 2, "gain", ANN, 0);
        }
    }

    // "In the mean, by all votes": whatever COINS somebody has, may pay or may still get
    private static void whateverCoins() {
        fresh("jurors 1;penalty 10;person ann;person bob coins 0;deed lie of bob fine 100 odds 8;");
        for (int i = 0; i < 10; i++) {
            due(23, Math.min(99999, 100 + 9999 * (i + 1)), "earn", ANN, 9999);
        }
        due(23, 99999, "earn", ANN, 9999);
        fraction(30, 20, 1, "gain", ANN, 0);
        fraction(31, 50, 1, "loss", ANN, 0);
        due(39, 50, "trade", ANN, 0, 1);
        due(17, 99999, "charge", ANN, 0, 1);
        fraction(30, 20, 1, "gain", ANN, 0);
        fraction(31, 50, 1, "loss", ANN, 0);
    }

    // "FRACTIONS .. without a common divisor, the bottom above 0; 0 is 0 by 1"
    private static void fractions() {
        fresh("jurors 9;share 16;penalty 999;" + TWO + "deed a of bob fine 999 odds 1;deed b of bob fine 999 odds 15;");
        fraction(3, 63, 256, "votes", ANN, 0, 4);
        fraction(4, 63, 256, "votes", ANN, 0, 4);
        refused(3, 9, "wins", BOB, 0);
        refused(4, 5, "votes", ANN, 0, 10);
        refused(3, 9, "chance", BOB, 0);
        refused(4, 2, "best", 7);
        due(3, 63, "top");
        due(4, 256, "bottom");
        // By CHANCE 1: 999 times the ways to win, less 999 times 15 to the ninth.
        long wins = 126L * 15 * 15 * 15 * 15 + 84L * 15 * 15 * 15 + 36L * 15 * 15 + 9L * 15 + 1;
        long top = 999 * (wins - 38443359375L);
        long shared = divisor(-top, 1L << 36);
        fraction(3, top / shared, (1L << 36) / shared, "gain", ANN, 1);
        fraction(4, top / shared, (1L << 36) / shared, "gain", ANN, 1);
        due(24, 1, "rule", 1, 0);
        due(24, 1, "rule", 3, 0);
        fraction(3, 0, 1, "gain", ANN, 1);
        fraction(4, 0, 1, "gain", ANN, 2);
        // By other divisors than two
        fresh(SURE + "person cid;deed a of bob fine 9 odds 16;deed b of bob fine 6 odds 16;");
        fraction(3, 5, 1, "clubPart", 7);
        fraction(4, 15, 2, "clubPart", 3);
        due(24, 1, "rule", 3, 5);
        due(23, 1099, "earn", BOB, 999);
        due(11, 1, "years", story.feed("charge ann a;"));
        fraction(3, 7, 1, "mean", 0, 7);
    }

    // "GLAD is somebody to charge, if his GAIN is above 0"; BEST, "with the greatest GAIN above 0"
    private static void gladAboveZero() {
        fresh(HALF);
        fraction(30, 0, 1, "gain", ANN, 0);
        fraction(30, 1, 2, "gain", ANN, 1);
        due(32, 1, "best", ANN);
        refused(34, 8, "accuser", 0);
        due(34, ANN, "accuser", 1);
        due(35, 1, "dreaded", BOB);
        fraction(36, 11, 1, "dread", BOB);
        fraction(33, 1, 1, "plan", ANN, 4);
        due(38, 1 + 8, "quiet");
        due(24, 1, "rule", 2, 11);
        fraction(30, 0, 1, "gain", ANN, 1);
        refused(32, 8, "best", ANN);
        refused(34, 8, "accuser", 1);
        refused(35, 8, "dreaded", BOB);
        fraction(36, 0, 1, "dread", BOB);
        fraction(33, 0, 1, "plan", ANN, 4);
        due(38, 15, "quiet");
        due(24, 1, "rule", 2, 12);
        fraction(30, -1, 2, "gain", ANN, 1);
        refused(32, 8, "best", ANN);
        fraction(33, 0, 1, "plan", ANN, 10);
        due(24, 1, "rule", 2, 9);
        due(38, 0, "quiet");
        // The least GAIN that there is above 0: one way of 16 to the ninth.
        fresh("jurors 9;fifth 5;share 16;penalty 1;person ann;person bob;deed a of bob fine 1 odds 8;");
        fraction(30, 0, 1, "gain", ANN, 0);
        refused(32, 8, "best", ANN);
        fresh("jurors 9;fifth 0;share 16;person ann;person bob;deed a of bob fine 1 odds 1;");
        due(32, 0, "best", ANN);
        due(34, ANN, "accuser", 0);
        due(35, 0, "dreaded", BOB);
        due(38, 0, "quiet");
    }

    // "of several the first"
    private static void firstOfSeveral() {
        fresh(SURE + "person cid;person dot;deed a of bob fine 7 odds 16;deed b of bob fine 9 odds 16;"
                + "deed c of bob fine 9 odds 16;deed d of bob fine 8 odds 16;");
        due(32, 1, "best", ANN);
        due(32, 1, "best", 3);
        due(34, ANN, "accuser", 1);
        due(35, 1, "dreaded", BOB);
        due(37, ANN, "friend", 1);
        due(22, 1, "train", BOB, 8);
        due(22, 1, "train", CID, 1);
        due(22, 1, "train", 3, 1);
        due(34, CID, "accuser", 1);
        due(37, ANN, "friend", 1);
        due(22, 1, "train", ANN, 2);
        due(34, ANN, "accuser", 1);
        due(37, CID, "friend", 1);
        due(22, 1, "train", 3, 0);
        due(37, 3, "friend", 1);
        due(22, 1, "train", 3, 3);
        due(34, 3, "accuser", 1);
        due(19, 100, "drop", ANN, 1, 0);
        due(32, 2, "best", ANN);
        due(35, 1, "dreaded", BOB);
        due(19, 100, "drop", 3, 1, 0);
        due(35, 2, "dreaded", BOB);
        // The last ones can be the greatest.
        fresh(SURE + times("person z#;", 6) + times("deed # of bob fine 5 odds 16;", 9) + "deed last of ann fine 6 odds 15;");
        due(22, 1, "train", 7, 1);
        due(32, 9, "best", 7);
        due(34, 7, "accuser", 9);
        due(35, 9, "dreaded", ANN);
        due(35, 0, "dreaded", BOB);
        due(37, BOB, "friend", 9);
    }

    // "of the DEEDS that he CAN charge", "by who CAN charge it"; "(2; 8)"
    private static void onlyWhatCanBeCharged() {
        fresh(SURE + "person cid;deed a of bob fine 9 odds 16;deed b of bob fine 8 odds 16;deed c of ann fine 7 odds 16;");
        due(32, 0, "best", ANN);
        due(32, 2, "best", BOB);
        due(19, 100, "drop", ANN, 0, 0);
        due(32, 1, "best", ANN);
        due(34, CID, "accuser", 0);
        due(37, CID, "friend", 0);
        due(23, -1, "earn", CID, -101);
        refused(32, 8, "best", CID);
        refused(34, 8, "accuser", 0);
        refused(37, 8, "friend", 0);
        refused(40, 8, "leastShare", 0);
        refused(41, 8, "leastFine", 0);
        refused(42, 8, "mostPenalty", 0);
        due(35, 1, "dreaded", BOB);
        fraction(36, 8, 1, "dread", BOB);
        due(38, 1, "quiet");
        due(43, 6, "gladBy", 16, 0);
        fraction(33, 8, 1, "plan", ANN, 10);
        fraction(33, 0, 1, "plan", CID, 10);
        due(17, 108, "charge", ANN, 1, 1);
        refused(32, 8, "best", ANN);
        refused(34, 8, "accuser", 1);
        refused(37, 8, "friend", 1);
        refused(40, 8, "leastShare", 1);
        refused(41, 8, "leastFine", 1);
        refused(42, 8, "mostPenalty", 1);
        refused(35, 8, "dreaded", BOB);
        fraction(36, 0, 1, "dread", BOB);
        due(38, 1, "quiet");
        due(43, 4, "gladBy", 16, 0);
        due(23, 0, "earn", CID, 1);
        due(34, CID, "accuser", 0);
        due(38, 0, "quiet");
        due(35, 0, "dreaded", BOB);
        // A RUINED one is DREADED of, too.
        due(23, -1, "earn", BOB, -93);
        due(35, 0, "dreaded", BOB);
        fraction(36, 9, 1, "dread", BOB);
        refused(32, 8, "best", BOB);
    }

    // Promise 33: "PLAN of n charges (0 to 10): the greatest sums of GAINS above 0 .. n at most"
    private static void planned() {
        int[] fines = {3, 1, 4, 1, 5, 9, 2, 6, 5, 3};
        int[] sums = {0, 9, 15, 20, 25, 29, 32, 35, 37, 38, 39};
        StringBuilder text = new StringBuilder(SURE);
        for (int d = 0; d < 10; d++) {
            text.append("deed ").append((char) ('a' + d)).append(" of bob fine ").append(fines[d]).append(" odds 16;");
        }
        fresh(text.toString());
        for (int n = 0; n <= 10; n++) {
            fraction(33, sums[n], 1, "plan", ANN, n);
            fraction(33, 0, 1, "plan", BOB, n);
        }
        for (int n : new int[] {-1, 11, LEAST, MOST}) {
            refused(33, 5, "plan", ANN, n);
        }
        due(17, 109, "charge", ANN, 5, 1);
        due(19, 109, "drop", ANN, 7, 0);
        fraction(33, 5, 1, "plan", ANN, 1);
        fraction(33, 24, 1, "plan", ANN, 10);
        fresh(HALF);
        fraction(33, 1, 2, "plan", ANN, 1);
        fraction(33, 1, 1, "plan", ANN, 2);
        fraction(33, 1, 1, "plan", ANN, 3);
        due(24, 1, "rule", 2, 0);
        fraction(33, 21, 1, "plan", ANN, 10);
        fresh(SURE);
        fraction(33, 0, 1, "plan", ANN, 10);
    }

    // "LOSSES of all his OPEN DEEDS, each the greatest by who CAN charge it and is GLAD to, together"
    private static void dreadedLosses() {
        fresh("jurors 1;penalty 10;share 8;person ann;person bob;person cid skill 4;deed a of bob fine 40 odds 8;"
                + "deed b of bob fine 20 odds 8;deed c of bob fine 12 odds 8;deed d of ann fine 500 odds 16;");
        // Of 16: by ANN 8, by CID 12. GAINS: a 5 and 12.5, b 0 and 5, c -2 and 2.
        fraction(36, 30 + 15 + 9, 1, "dread", BOB);
        due(35, 0, "dreaded", BOB);
        due(19, 100, "drop", CID, 0, 0);
        fraction(36, 20 + 15 + 9, 1, "dread", BOB);
        due(19, 100, "drop", CID, 1, 0);
        fraction(36, 20 + 9, 1, "dread", BOB);
        due(19, 100, "drop", CID, 2, 0);
        fraction(36, 20, 1, "dread", BOB);
        due(38, 2 + 4, "quiet");
        due(19, 100, "drop", ANN, 0, 0);
        fraction(36, 0, 1, "dread", BOB);
        refused(35, 8, "dreaded", BOB);
        fraction(36, 500, 1, "dread", ANN);
        fraction(36, 0, 1, "dread", CID);
        refused(35, 8, "dreaded", CID);
    }

    // "FRIEND for a DEED: who CAN charge it with the least LOSS" (GLAD or not); "8: nobody CAN"
    private static void friends() {
        fresh("penalty 999;person ann skill 2;person bob;person cid skill 1;person dot skill 1;"
                + "deed a of bob fine 40 odds 4;deed b of bob fine 40 odds 16;deed c of ann fine 40 odds 0;");
        due(38, 4 + 1, "quiet");
        due(37, CID, "friend", 0);
        due(37, ANN, "friend", 1);
        due(37, BOB, "friend", 2);
        due(23, -1, "earn", CID, -101);
        due(37, 3, "friend", 0);
        due(19, 100, "drop", 3, 0, 0);
        due(37, ANN, "friend", 0);
        due(23, -1, "earn", ANN, -101);
        refused(37, 8, "friend", 0);
        due(37, 3, "friend", 1);
        due(17, -899, "charge", 3, 1, 0);
        refused(37, 8, "friend", 1);
        due(37, BOB, "friend", 2);
        due(17, -899, "charge", BOB, 2, 0);
        refused(37, 8, "friend", 2);
        fresh("person bob;deed a of bob fine 1 odds 1;");
        refused(37, 8, "friend", 0);
        // By LOSS, not by GAIN: without SHARE and FIFTH all of these GAIN nothing.
        fresh("share 0;fifth 0;person ann skill 2;person bob;person cid skill 1;deed a of bob fine 40 odds 4;");
        fraction(30, 0, 1, "gain", ANN, 0);
        fraction(30, 0, 1, "gain", CID, 0);
        due(37, CID, "friend", 0);
    }

    // "The set of OPEN DEEDS that nobody who CAN is GLAD to charge": those, too, that nobody CAN.
    private static void quietDeeds() {
        fresh();
        due(38, 0, "quiet");
        fresh("person bob;" + times("deed # of bob fine 9 odds 16;", 10));
        due(38, 1023, "quiet");
        fresh(SURE + times("deed # of bob fine 9 odds 16;", 10));
        due(38, 0, "quiet");
        due(43, 1023, "gladBy", 16, 0);
        due(23, -1, "earn", ANN, -101);
        due(38, 1023, "quiet");
        due(43, 0, "gladBy", 16, 0);
        due(23, 0, "earn", ANN, 1);
        due(17, 9, "charge", ANN, 9, 1);
        due(38, 0, "quiet");
        due(24, 1, "rule", 3, 0);
        due(38, 511, "quiet");
    }

    // Promise 39: "what 0: the fewest COINS, 1: the most (2; 5 ..)"
    private static void tradeNumbers() {
        fresh("jurors 1;penalty 10;" + TWO);
        due(39, 20, "trade", ANN, 0, 0);
        due(39, 50, "trade", ANN, 0, 1);
        for (int what : new int[] {-1, 2, LEAST, MOST}) {
            refused(39, 5, "trade", ANN, 0, what);
            refused(39, 5, "trade", BOB, 0, what);
        }
    }

    private static void trade(String rules, int fine, int odds, int fewest, int most) {
        fresh("jurors 1;" + rules + "person ann;person bob;deed lie of bob fine " + fine + " odds " + odds + ";");
        if (fewest > most) {
            refused(39, 8, "trade", ANN, 0, 0);
            refused(39, 8, "trade", ANN, 0, 1);
        } else {
            due(39, fewest, "trade", ANN, 0, 0);
            due(39, most, "trade", ANN, 0, 1);
        }
    }

    // "whole COINS from his GAIN on (0 at least) up to the LOSS"
    private static void tradeWhole() {
        trade("penalty 10;", 100, 8, 20, 50);
        trade("penalty 10;", 101, 8, 20, 50);
        trade("penalty 10;", 102, 8, 21, 51);
        trade("penalty 50;", 100, 8, 0, 50);
        trade("penalty 51;", 100, 8, 0, 50);
        trade("penalty 49;", 100, 8, 1, 50);
        trade("penalty 999;", 100, 8, 0, 50);
        trade("penalty 999;", 1, 8, 0, 0);
        trade("penalty 999;", 1, 0, 0, 0);
        trade("fifth 0;share 16;", 2, 8, 1, 1);
        trade("fifth 0;share 16;", 1, 8, 1, 0);
        trade("fifth 0;share 16;", 3, 8, 2, 1);
        trade("fifth 0;share 16;", 999, 16, 999, 999);
        trade("fifth 0;share 8;", 34, 1, 2, 2);
        trade("fifth 0;share 8;", 32, 1, 1, 2);
        trade("fifth 0;share 8;", 33, 1, 1, 2);
        trade("fifth 0;share 8;", 31, 1, 1, 1);
        trade("fifth 0;share 16;", 17, 1, 2, 1);
        trade("fifth 0;share 16;", 15, 1, 1, 0);
        trade("fifth 0;share 0;", 15, 1, 0, 0);
        trade("fifth 0;share 16;", 9, 0, 0, 0);
    }

    // "(2; 5; 9: he can't charge it; 8: none lies between)": 9 is asked ahead of 8, as it stands there.
    private static void tradeRefusals() {
        fresh("jurors 1;fifth 0;share 16;" + TWO + "deed a of bob fine 1 odds 8;");
        refused(39, 8, "trade", ANN, 1, 0);
        refused(39, 9, "trade", BOB, 1, 0);
        due(23, -1, "earn", ANN, -101);
        refused(39, 9, "trade", ANN, 1, 0);
        refused(39, 9, "trade", ANN, 0, 1);
        due(23, 0, "earn", ANN, 1);
        refused(39, 8, "trade", ANN, 1, 1);
        due(19, 0, "drop", ANN, 1, 0);
        refused(39, 9, "trade", ANN, 1, 1);
        refused(39, 5, "trade", ANN, 1, 2);
        due(17, 100, "charge", ANN, 0, 1);
        refused(39, 9, "trade", ANN, 0, 0);
    }

    // Promise 40: "The least SHARE (0 to 16)", "8: by none"
    private static void sharesAsked() {
        fresh(HALF);
        refused(40, 8, "leastShare", 0);
        due(40, 16, "leastShare", 1);
        due(24, 1, "rule", 2, 9);
        due(40, 16, "leastShare", 0);
        due(40, 15, "leastShare", 1);
        due(24, 1, "rule", 3, 0);
        due(40, 15, "leastShare", 1);
        due(24, 1, "rule", 2, 0);
        due(40, 2, "leastShare", 0);
        due(20, 4, "commit", BOB, 16, 8);
        due(20, 5, "commit", BOB, 15, 8);
        due(20, 6, "commit", BOB, 1, 8);
        due(20, 7, "commit", BOB, 999, 0);
        due(20, 8, "commit", BOB, 999, 1);
        due(40, 1, "leastShare", 4);
        due(40, 2, "leastShare", 5);
        due(40, 16, "leastShare", 6);
        refused(40, 8, "leastShare", 7);
        due(40, 1, "leastShare", 8);
        due(24, 1, "rule", 2, 999);
        refused(40, 8, "leastShare", 8);
        due(24, 1, "rule", 1, 0);
        due(40, 1, "leastShare", 8);
        // By somebody, whoever that is.
        due(24, 1, "rule", 1, 1);
        due(22, 1, "train", CID, 14);
        due(40, 2, "leastShare", 8);
        due(22, 1, "train", CID, 15);
        due(40, 1, "leastShare", 8);
    }

    // Promise 41: "The least FINE (1 to 999)", "8: by none"
    private static void finesAsked() {
        fresh(HALF);
        due(41, 11, "leastFine", 0);
        due(24, 1, "rule", 2, 0);
        due(41, 1, "leastFine", 0);
        due(41, 1, "leastFine", 3);
        due(24, 1, "rule", 2, 998);
        due(41, 999, "leastFine", 0);
        due(24, 1, "rule", 2, 999);
        refused(41, 8, "leastFine", 0);
        due(24, 1, "rule", 1, 0);
        due(41, 1, "leastFine", 0);
        due(24, 1, "rule", 3, 1);
        due(41, 16, "leastFine", 0);
        due(24, 1, "rule", 3, 0);
        refused(41, 8, "leastFine", 0);
        due(24, 1, "rule", 3, 15);
        due(41, 2, "leastFine", 0);
        due(22, 1, "train", BOB, 8);
        refused(41, 8, "leastFine", 0);
        due(22, 1, "train", CID, 1);
        due(41, 2, "leastFine", 0);
        due(10, 10, "deed", 0, 1);
    }

    // Promise 42: "The greatest PENALTY (0 to 999)", "8: by none"
    private static void penaltiesAsked() {
        fresh(HALF);
        due(42, 9, "mostPenalty", 0);
        due(42, 10, "mostPenalty", 1);
        due(20, 4, "commit", BOB, 1, 8);
        due(42, 0, "mostPenalty", 4);
        due(20, 5, "commit", BOB, 999, 8);
        due(42, 998, "mostPenalty", 5);
        due(20, 6, "commit", BOB, 999, 9);
        due(42, 999, "mostPenalty", 6);
        due(20, 7, "commit", BOB, 1, 0);
        refused(42, 8, "mostPenalty", 7);
        due(24, 1, "rule", 3, 15);
        refused(42, 8, "mostPenalty", 4);
        due(24, 1, "rule", 3, 16);
        due(24, 1, "rule", 1, 0);
        due(42, 999, "mostPenalty", 4);
        refused(42, 8, "mostPenalty", 7);
        due(24, 1, "rule", 3, 0);
        refused(42, 8, "mostPenalty", 5);
    }

    // Promise 43: "by other SHARE (0 to 16), PENALTY (0 to 999) (5)"
    private static void gladByOthers() {
        fresh(HALF);
        for (int share : new int[] {-1, 17, LEAST, MOST}) {
            refused(43, 5, "gladBy", share, 0);
        }
        for (int penalty : new int[] {-1, 1000, LEAST, MOST}) {
            refused(43, 5, "gladBy", 16, penalty);
        }
        due(43, 0, "gladBy", 0, 0);
        due(43, 0, "gladBy", 0, 999);
        due(43, 0, "gladBy", 16, 999);
        due(43, 15, "gladBy", 16, 0);
        due(43, 6, "gladBy", 16, 10);
        due(43, 15, "gladBy", 16, 9);
        due(43, 0, "gladBy", 16, 11);
        due(43, 0, "gladBy", 15, 10);
        due(43, 6, "gladBy", 15, 9);
        due(43, 15, "gladBy", 2, 0);
        due(43, 0, "gladBy", 1, 0);
        due(20, 4, "commit", BOB, 999, 9);
        due(43, 16, "gladBy", 16, 999);
        due(43, 16, "gladBy", 1, 0);
        due(17, 110, "charge", ANN, 0, 1);
        due(43, 14 + 16, "gladBy", 16, 0);
        due(24, 1, "rule", 1, 0);
        due(43, 6 + 8 + 16, "gladBy", 16, 999);
        due(24, 1, "rule", 3, 0);
        due(24, 1, "rule", 2, 5);
        due(43, 14 + 16, "gladBy", 16, 999);
        due(43, 0, "gladBy", 0, 0);
        due(43, 16, "gladBy", 1, 0);
        due(13, 5, "many", 4);
        due(13, 0, "many", 5);
    }
}
