/** The edges that promises 13 to 24 name, and what is HEARD and DROPPED as the Terms tell it. */
public final class DeedEdgeTests extends Trial {
    // Every call with a PERSON (p), a DEED (d), other numbers that can be | that can't be.
    private static final String[] CALLS = {"person p 0|6", "charge p d 0|99", "hear p d 0|-1", "drop p d 0|-1",
        "commit p 1|0 0|17", "train p 0|17", "earn p 0|10000", "can p d", "chance p d", "votes p d 0|99", "wins p d",
        "owes p d", "gain p d", "loss p d", "best p", "plan p 0|11", "dreaded p", "dread p", "trade p d 0|2",
        "game p p 0|4", "moveOf p p 1|0", "gained p 0|10000", "sure p 0|10000", "bound p 0|2", "deed d 0|6",
        "reopen d", "accuser d", "friend d", "leastShare d", "leastFine d", "mostPenalty d"};
    private static final int[] PROMISES = {14, 17, 18, 19, 20, 22, 23, 25, 26, 27, 28, 29, 30, 31, 32, 33, 35, 36, 39,
        44, 45, 48, 49, 50, 15, 21, 34, 37, 40, 41, 42};
    // By JURORS, 1 to 9: the fewest votes that are more than half.
    private static final int[] HALVES = {0, 1, 2, 2, 3, 3, 4, 4, 5, 5};
    private static final String TWO = "person ann;person bob;deed lie of bob fine 100 odds 8;";
    private static final int ANN = 0;
    private static final int BOB = 1;

    private DeedEdgeTests() {
    }

    public static void main(String[] args) {
        noSuchPersonOrDeed();
        whatManyTells();
        setsAtTheirLargest();
        whatPersonAndDeedTell();
        whoCanCharge();
        votesOfCharge();
        moreThanHalf();
        fewerThanFifth();
        sharesRoundedDown();
        coinsAtMost();
        coinsAtLeast();
        treasuryAtMost();
        seedsOfHear();
        drawsBelowChance();
        coinsOfDrop();
        whatDropLeaves();
        committing();
        mostCommitted();
        reopening();
        training();
        earning();
        ruling();
        Check.end("DeedEdgeTests");
    }

    private static void wrongIndex(int promise, String[] parts, int at, long index, boolean othersGood) {
        long[] a = new long[parts.length - 1];
        for (int i = 1; i < parts.length; i++) {
            String[] two = parts[i].split("\\|");
            boolean isIndex = parts[i].equals("p") || parts[i].equals("d");
            if (i == at) {
                a[i - 1] = index;
            } else if (isIndex) {
                a[i - 1] = othersGood ? 0 : -1;
            } else {
                a[i - 1] = Long.parseLong(two[othersGood ? 0 : 1]);
            }
        }
        refused(promise, 2, parts[0], a);
    }

    // "2 no such PERSON, DEED", ahead of what else can't be.
    private static void noSuchPersonOrDeed() {
        for (int c = 0; c < CALLS.length; c++) {
            String[] parts = CALLS[c].split(" ");
            fresh("person ann;person bob;person cid;" + "deed lie of bob fine 100 odds 8;deed a of cid fine 1 odds 1;");
            for (int at = 1; at < parts.length; at++) {
                if (parts[at].equals("p") || parts[at].equals("d")) {
                    for (long index : new long[] {-1, parts[at].equals("p") ? 3 : 2, LEAST, MOST}) {
                        wrongIndex(PROMISES[c], parts, at, index, true);
                        wrongIndex(PROMISES[c], parts, at, index, false);
                    }
                }
            }
            // The last ones there are.
            if (parts[1].equals("p")) {
                story.call(parts[0], lastOnes(parts));
                Check.that(parts[0] + " of the last PERSON, DEED", story.status() != 2);
            }
        }
    }

    private static long[] lastOnes(String[] parts) {
        long[] a = new long[parts.length - 1];
        for (int i = 1; i < parts.length; i++) {
            a[i - 1] = parts[i].equals("p") ? 3 - i : parts[i].equals("d") ? 1 : Long.parseLong(parts[i].split("\\|")[0]);
        }
        return a;
    }

    // Promise 13: "(5)"
    private static void whatManyTells() {
        fresh(TWO);
        long[] facts = {2, 1, 5, 1, 100, 8, 0, 1, 0, 0, 0};
        for (int what = 0; what <= 10; what++) {
            due(13, facts[what], "many", what);
        }
        for (int what : new int[] {-1, 11, LEAST, MOST}) {
            refused(13, 5, "many", what);
        }
    }

    // "the sets of DEEDS (1 for DEED 0 ..) that are OPEN (7), WON (8); of PEOPLE that are RUINED (9)"
    private static void setsAtTheirLargest() {
        fresh("jurors 1;fifth 0;" + times("person p# coins 0;", 8) + times("deed # of pa fine 1 odds 0;", 10));
        due(13, 0, "many", 9);
        for (int p = 7; p >= 0; p--) {
            due(13, 0, "person", p, 0);
            due(13, -1, "earn", p, -1);
            due(13, 255 & ~((1 << p) - 1), "many", 9);
        }
        due(13, 0, "earn", 7, 1);
        due(13, 127, "many", 9);
        due(14, 1023, "person", 0, 4);
        due(14, 0, "person", 7, 4);
        int open = 1023;
        int won = 0;
        for (int d = 9; d >= 0; d--) {
            due(13, open, "many", 7);
            due(13, won, "many", 8);
            due(13, 0, "charge", 7, d, d == 4 ? 0 : 1);
            open -= 1 << d;
            won += d == 4 ? 0 : 1 << d;
            due(13, 10 - d, "many", 10);
        }
        due(13, 0, "many", 7);
        due(13, 1023 - 16, "many", 8);
        due(14, 9, "person", 7, 2);
        fresh(times("person p#;", 8) + times("deed # of pa fine 1 odds 0;", 10));
        for (int d = 9; d >= 0; d--) {
            due(14, 100, "drop", 7, d, 0);
            due(14, 1023 & ~((1 << d) - 1), "person", 7, 5);
        }
        due(14, 0, "person", 6, 5);
        due(13, 1023, "many", 7);
    }

    // Promises 14, 15: "(2; 5)", "(8: it was not HEARD)"
    private static void whatPersonAndDeedTell() {
        fresh(TWO);
        for (int what : new int[] {-1, 6, LEAST, MOST}) {
            refused(14, 5, "person", ANN, what);
            refused(15, 5, "deed", 0, what);
        }
        refused(15, 8, "deed", 0, 4);
        refused(15, 8, "deed", 0, 5);
        due(15, 0, "deed", 0, 3);
        long[] person = {100, 0, 0, 0, 0, 0};
        for (int what = 0; what < 6; what++) {
            due(14, person[what], "person", ANN, what);
        }
        // STATUS tells NONE from -1.
        due(14, -1, "earn", ANN, -101);
        due(14, -1, "person", ANN, 0);
        due(14, 5, "earn", ANN, 6);
        due(15, 5 - 100, "charge", ANN, 0, 0);
        long[] deed = {1, 100, 8, 2, 0, 0};
        for (int what = 0; what < 6; what++) {
            due(15, deed[what], "deed", 0, what);
        }
        due(14, 1, "person", ANN, 3);
        due(14, 0, "person", ANN, 2);
        due(21, 1, "reopen", 0);
        due(23, 99, "earn", ANN, 194);
        due(17, -1, "charge", ANN, 0, 0);
        due(14, -1, "person", ANN, 0);
    }

    private static void canNot(int person, int deed) {
        due(25, 0, "can", person, deed);
        refused(17, 9, "charge", person, deed, 0);
        refused(18, 9, "hear", person, deed, 0);
        refused(19, 9, "drop", person, deed, 0);
        refused(39, 9, "trade", person, deed, 0);
        refused(17, 5, "charge", person, deed, 6);
        refused(18, 5, "hear", person, deed, 10000);
        refused(19, 5, "drop", person, deed, -1);
        refused(39, 5, "trade", person, deed, 2);
    }

    // "One CAN charge a DEED that is OPEN, not his own, that he has not DROPPED, if he is not RUINED."
    private static void whoCanCharge() {
        fresh(TWO + "person cid;");
        due(25, 1, "can", ANN, 0);
        canNot(BOB, 0);
        due(25, -1, "earn", ANN, -101);
        canNot(ANN, 0);
        due(25, 0, "earn", ANN, 1);
        due(25, 1, "can", ANN, 0);
        due(25, 0, "drop", ANN, 0, 0);
        canNot(ANN, 0);
        due(25, 1, "can", 2, 0);
        due(25, -100, "earn", 2, -200);
        due(25, 0, "can", 2, 0);
        due(25, 100, "earn", 2, 200);
        due(25, 100, "charge", 2, 0, 2);
        canNot(2, 0);
        due(25, 1, "reopen", 0);
        due(25, 1, "can", ANN, 0);
        // Whose DEED it is may be RUINED.
        due(25, -1, "earn", BOB, -101);
        due(25, 1, "can", ANN, 0);
        due(25, 50, "charge", ANN, 0, 3);
        canNot(2, 0);
    }

    // Promise 17: "with so many votes" of 0 to JURORS; "(2; 5; 9)"
    private static void votesOfCharge() {
        for (int jurors = 1; jurors <= 9; jurors++) {
            fresh("jurors " + jurors + ";" + TWO);
            for (int votes : new int[] {-1, jurors + 1, LEAST, MOST}) {
                refused(17, 5, "charge", ANN, 0, votes);
                refused(17, 5, "charge", BOB, 0, votes);
            }
            due(17, 0, "charge", ANN, 0, 0);
            due(15, 0, "deed", 0, 5);
            due(21, 1, "reopen", 0);
            due(17, 50, "charge", ANN, 0, jurors);
            due(15, jurors, "deed", 0, 5);
            due(15, ANN, "deed", 0, 4);
        }
    }

    // "with more than half of the JURORS it is WON"
    private static void moreThanHalf() {
        for (int jurors = 1; jurors <= 9; jurors++) {
            fresh("fifth 0;" + TWO);
            due(24, 1, "rule", 0, jurors);
            due(17, 100, "charge", ANN, 0, HALVES[jurors] - 1);
            due(15, 2, "deed", 0, 3);
            due(13, 0, "many", 8);
            due(17, 0, "person", ANN, 2);
            due(21, 1, "reopen", 0);
            due(17, 150, "charge", ANN, 0, HALVES[jurors]);
            due(15, 1, "deed", 0, 3);
            due(13, 1, "many", 8);
            due(17, 1, "person", ANN, 2);
            due(17, 0, "person", BOB, 0);
            due(17, 50, "many", 6);
        }
    }

    // "else, with fewer votes than FIFTH, the accuser pays the PENALTY to the TREASURY"
    private static void fewerThanFifth() {
        for (int fifth = 0; fifth <= 9; fifth++) {
            fresh("jurors 9;penalty 7;share 16;fifth " + fifth + ";" + TWO);
            int owes = Math.min(fifth - 1, 4);
            if (owes >= 0) {
                due(17, 93, "charge", ANN, 0, owes);
                due(17, 1, "person", ANN, 3);
                due(17, 7, "many", 6);
                due(15, 2, "deed", 0, 3);
                due(21, 1, "reopen", 0);
                due(23, 100, "earn", ANN, 7);
            }
            // Just FIFTH of the votes, or what WINS ahead of it: no PENALTY.
            due(17, owes + 1 > 4 ? 200 : 100, "charge", ANN, 0, owes + 1);
            due(17, owes >= 0 ? 1 : 0, "person", ANN, 3);
            due(17, owes >= 0 ? 7 : 0, "many", 6);
            due(15, owes + 1 > 4 ? 1 : 2, "deed", 0, 3);
        }
        // A PENALTY of 0 is owed, too.
        fresh("penalty 0;" + TWO);
        due(17, 100, "charge", ANN, 0, 0);
        due(17, 1, "person", ANN, 3);
    }

    // "SHARE sixteenths of it, rounded down, the rest goes to the TREASURY"
    private static void sharesRoundedDown() {
        int[][] cases = {{15, 1, 0}, {16, 1, 1}, {17, 1, 1}, {31, 1, 1}, {32, 1, 2}, {1, 15, 0}, {1, 16, 1}, {999, 0, 0},
            {999, 1, 62}, {999, 15, 936}, {999, 16, 999}, {17, 15, 15}, {3, 5, 0}, {3, 6, 1}, {33, 8, 16}};
        for (int[] c : cases) {
            fresh("share " + c[1] + ";person ann;person bob coins 1000;deed lie of bob fine " + c[0] + " odds 0;");
            due(17, 100 + c[2], "charge", ANN, 0, 3);
            due(17, 1000 - c[0], "person", BOB, 0);
            due(17, c[0] - c[2], "many", 6);
            due(50, c[2], "bound", ANN, 0);
        }
    }

    private static void earnTo(int person, int coins) {
        int have = (int) story.call("person", person, 0);
        while (have != coins) {
            int step = Math.max(-9999, Math.min(9999, coins - have));
            due(23, have + step, "earn", person, step);
            have += step;
        }
    }

    // "they are 99,999 at most, what is more is lost"
    private static void coinsAtMost() {
        fresh("share 16;person ann;person bob coins 9999;deed lie of bob fine 5 odds 0;deed a of bob fine 5 odds 0;");
        earnTo(ANN, 99993);
        due(17, 99998, "charge", ANN, 0, 5);
        due(23, 99999, "earn", ANN, 1);
        due(23, 99999, "earn", ANN, 1);
        due(23, 99999, "earn", ANN, 9999);
        due(17, 99999, "charge", ANN, 1, 5);
        due(17, 9989, "person", BOB, 0);
        due(17, 0, "many", 6);
        due(21, 1, "reopen", 0);
        due(19, 99999, "drop", ANN, 0, 9989);
        due(19, 0, "person", BOB, 0);
        due(23, 99998, "earn", ANN, -1);
        due(21, 1, "reopen", 1);
        due(23, 2, "earn", BOB, 2);
        due(19, 99999, "drop", ANN, 1, 1);
        due(11, 1, "years", story.feed("earn ann 999;"));
        due(51, 1, "live", 0);
        due(51, 99999, "person", ANN, 0);
    }

    // "COINS may come to be below 0, -99,999 at least"
    private static void coinsAtLeast() {
        fresh("share 0;person ann;person bob;deed lie of bob fine 9 odds 0;deed a of bob fine 9 odds 0;");
        earnTo(BOB, -99989);
        due(17, 100, "charge", ANN, 0, 5);
        due(17, -99998, "person", BOB, 0);
        due(17, 9, "many", 6);
        due(23, -99999, "earn", BOB, -1);
        due(23, -99999, "earn", BOB, -1);
        due(23, -99999, "earn", BOB, -9999);
        due(17, 100, "charge", ANN, 1, 5);
        due(17, -99999, "person", BOB, 0);
        due(17, 18, "many", 6);
        due(23, -99998, "earn", BOB, 1);
        due(21, 1, "reopen", 0);
        due(17, 100, "charge", ANN, 0, 5);
        due(17, -99999, "person", BOB, 0);
        due(17, 27, "many", 6);
    }

    // "so is the TREASURY": 99,999 at most
    private static void treasuryAtMost() {
        fresh("jurors 1;share 0;penalty 98;person ann coins 9999;person bob;deed lie of bob fine 999 odds 0;"
                + "deed a of bob fine 1 odds 0;");
        for (int i = 1; i <= 100; i++) {
            due(17, 9999, "charge", ANN, 0, 1);
            Check.same("reopen", story.call("reopen", 0), 1);
        }
        due(13, 99900, "many", 6);
        due(17, 9901, "charge", ANN, 0, 0);
        due(13, 99998, "many", 6);
        due(17, 9901, "charge", ANN, 1, 1);
        due(13, 99999, "many", 6);
        due(21, 1, "reopen", 1);
        due(17, 9901, "charge", ANN, 1, 1);
        due(13, 99999, "many", 6);
        due(21, 1, "reopen", 1);
        due(17, 9803, "charge", ANN, 1, 0);
        due(13, 99999, "many", 6);
        due(21, 1, "reopen", 0);
        due(17, 9803, "charge", ANN, 0, 1);
        due(13, 99999, "many", 6);
    }

    // Promise 18: "by draws by a seed (0 to 9,999)"; "(2; 5; 9)"
    private static void seedsOfHear() {
        fresh("jurors 1;" + TWO);
        for (int seed : new int[] {-1, 10000, LEAST, MOST}) {
            refused(18, 5, "hear", ANN, 0, seed);
            refused(18, 5, "hear", BOB, 0, seed);
        }
        refused(18, 9, "hear", BOB, 0, 9999);
        // Of seed 9,999: 9,999 times 2,971 and 10,739 leaves 29,960; by 8 that is 3,745, by 16 1 is left.
        fresh("jurors 1;person ann;person bob;deed lie of bob fine 100 odds 1;deed a of bob fine 100 odds 2;");
        due(18, 0, "hear", ANN, 0, 9999);
        due(15, 2, "deed", 0, 3);
        due(18, 100, "earn", ANN, 100);
        due(18, 1, "hear", ANN, 1, 9999);
        due(15, 1, "deed", 1, 3);
        due(15, 1, "deed", 1, 5);
        due(15, ANN, "deed", 1, 4);
        due(13, 2, "many", 10);
        // By the same seed the same draws, whatever was drawn ahead; of as many JURORS as there can be.
        fresh("jurors 9;person ann;person bob;deed lie of bob fine 1 odds 5;");
        for (int time = 0; time < 3; time++) {
            // 14, 2, 1, 1, 9, 11, 4, 2, 4 by 0; 3, 2, 8, 7, 2, 7, 15, 4, 1 by 1,234
            due(18, 6, "hear", ANN, 0, 0);
            due(21, 1, "reopen", 0);
            due(18, 5, "hear", ANN, 0, 1234);
            due(21, 1, "reopen", 0);
        }
        due(18, 6, "hear", ANN, 0, 0);
        due(15, 1, "deed", 0, 3);
    }

    // "each of the JURORS votes for it, if a draw by 16 is below CHANCE by 16"
    private static void drawsBelowChance() {
        // Of seed 0 the draws are 14, 2, 1: by CHANCE the votes.
        int[] votes = {0, 0, 1, 2, 2, 2, 2, 2, 2, 2, 2, 2, 2, 2, 2, 3, 3};
        for (int chance = 0; chance <= 16; chance++) {
            fresh("jurors 3;person ann;person bob;deed lie of bob fine 2 odds " + chance + ";");
            due(26, chance, "chance", ANN, 0);
            due(18, votes[chance], "hear", ANN, 0, 0);
            due(15, votes[chance], "deed", 0, 5);
            due(15, votes[chance] > 1 ? 1 : 2, "deed", 0, 3);
            due(13, 1, "many", 10);
        }
    }

    // Promise 19: "5: below 0, above 9,999; 9: .. too few COINS"
    private static void coinsOfDrop() {
        fresh("person ann;person bob coins 9999;deed lie of bob fine 1 odds 1;deed a of bob fine 1 odds 1;");
        for (int coins : new int[] {-1, 10000, LEAST, MOST}) {
            refused(19, 5, "drop", ANN, 0, coins);
            refused(19, 5, "drop", BOB, 0, coins);
        }
        due(23, 9998, "earn", BOB, -1);
        refused(19, 9, "drop", ANN, 0, 9999);
        due(19, 10098, "drop", ANN, 0, 9998);
        due(19, 0, "person", BOB, 0);
        refused(19, 9, "drop", ANN, 1, 1);
        due(19, 10098, "drop", ANN, 1, 0);
        due(19, 3, "person", ANN, 5);
        fresh("person ann;person bob coins 9999;deed lie of bob fine 1 odds 1;");
        due(19, 10099, "drop", ANN, 0, 9999);
        due(19, 0, "person", BOB, 0);
        fresh(TWO);
        due(23, -1, "earn", BOB, -101);
        refused(19, 9, "drop", ANN, 0, 0);
        due(23, 0, "earn", BOB, 1);
        due(19, 100, "drop", ANN, 0, 0);
    }

    // "has DROPPED it for good; it stays OPEN"
    private static void whatDropLeaves() {
        fresh(TWO + "person cid;");
        due(19, 130, "drop", ANN, 0, 30);
        due(19, 70, "person", BOB, 0);
        due(19, 1, "person", ANN, 5);
        due(19, 0, "person", BOB, 5);
        due(19, 0, "person", 2, 5);
        due(19, 1, "many", 7);
        due(19, 0, "many", 6);
        due(19, 0, "many", 10);
        refused(15, 8, "deed", 0, 4);
        refused(19, 9, "drop", ANN, 0, 0);
        due(20, 1, "commit", BOB, 5, 5);
        due(19, 1, "person", ANN, 5);
        due(19, 1, "can", ANN, 1);
        due(19, 0, "can", ANN, 0);
        due(19, 0, "charge", 2, 0, 0);
        due(19, 1, "person", ANN, 5);
        refused(19, 9, "drop", 2, 0, 0);
    }

    // Promise 20: "(2; 5; 7: an 11th)", FINE 1 to 999, ODDS 0 to 16
    private static void committing() {
        fresh(TWO);
        int[][] wrong = {{0, 0}, {1000, 0}, {-1, 0}, {1, -1}, {1, 17}, {999, 17}, {0, 17}, {LEAST, 0}, {MOST, 0},
            {1, LEAST}, {1, MOST}};
        for (int[] w : wrong) {
            refused(20, 5, "commit", ANN, w[0], w[1]);
        }
        due(20, 1, "commit", ANN, 1, 0);
        due(20, 2, "commit", BOB, 999, 16);
        long[][] deeds = {{0, 1, 0, 0}, {1, 999, 16, 0}};
        for (int d = 1; d <= 2; d++) {
            for (int what = 0; what < 4; what++) {
                due(20, deeds[d - 1][what], "deed", d, what);
            }
        }
        refused(15, 8, "deed", 2, 5);
        due(20, 3, "many", 1);
        due(20, 2, "person", ANN, 4);
        due(20, 5, "person", BOB, 4);
    }

    private static void mostCommitted() {
        fresh(TWO);
        for (int d = 1; d < 10; d++) {
            due(20, d, "commit", ANN, d, d);
        }
        refused(20, 7, "commit", ANN, 1, 0);
        refused(20, 7, "commit", BOB, 999, 16);
        refused(20, 5, "commit", BOB, 1000, 16);
        refused(20, 5, "commit", BOB, 1, 17);
        due(20, 9, "deed", 9, 1);
        due(20, 9, "deed", 9, 2);
        // What was dropped or heard ahead of a mark's deed is not of the new one with its number.
        fresh(TWO);
        due(54, 1, "mark");
        due(20, 1, "commit", BOB, 50, 16);
        due(19, 100, "drop", ANN, 1, 0);
        due(55, 0, "back");
        due(20, 1, "commit", BOB, 60, 16);
        due(20, 1, "can", ANN, 1);
        due(17, 130, "charge", ANN, 1, 5);
        due(10, 1, "city", story.feed(TWO));
        due(20, 1, "commit", BOB, 60, 16);
        due(20, 0, "deed", 1, 3);
        refused(15, 8, "deed", 1, 4);
    }

    // Promise 21: "OPEN again, as if it was not HEARD, and nobody has DROPPED it; COINS and all that was counted stay"
    private static void reopening() {
        fresh(TWO + "person cid;person dot;deed a of bob fine 30 odds 3;");
        refused(21, 9, "reopen", 0);
        due(19, 110, "drop", ANN, 0, 10);
        due(19, 110, "drop", ANN, 1, 0);
        due(19, 100, "drop", 3, 0, 0);
        refused(21, 9, "reopen", 0);
        due(17, 150, "charge", 2, 0, 5);
        due(17, 50, "charge", 2, 1, 0);
        due(21, 1, "reopen", 0);
        refused(21, 9, "reopen", 0);
        long[] facts = {4, 2, 5, 1, 100, 8, 150, 1, 0, 2, 2};
        for (int what = 0; what < 11; what++) {
            due(21, facts[what], "many", what);
        }
        due(21, 2, "person", ANN, 5);
        due(21, 0, "person", 3, 5);
        due(21, 1, "person", 2, 2);
        due(21, 1, "person", 2, 3);
        due(21, 50, "person", 2, 0);
        due(21, -10, "person", BOB, 0);
        refused(15, 8, "deed", 0, 4);
        refused(15, 8, "deed", 0, 5);
        due(21, 1, "can", ANN, 0);
        due(21, 1, "can", 3, 0);
        due(15, 2, "deed", 1, 3);
        due(21, 1, "reopen", 1);
        due(21, 0, "person", ANN, 5);
        due(21, 3, "many", 7);
        due(17, 10, "charge", ANN, 1, 0);
        due(21, 3, "many", 10);
    }

    // Promise 22: "(0 to 16)"; "from now on"
    private static void training() {
        fresh(TWO);
        for (int skill : new int[] {-1, 17, LEAST, MOST}) {
            refused(22, 5, "train", ANN, skill);
        }
        for (int skill = 0; skill <= 16; skill++) {
            due(22, 1, "train", ANN, skill);
            due(22, skill, "person", ANN, 1);
            due(22, 0, "person", BOB, 1);
            due(26, Math.min(16, 8 + skill), "chance", ANN, 0);
        }
        due(22, 1, "train", ANN, 0);
        due(26, 8, "chance", ANN, 0);
        refused(22, 5, "train", BOB, 17);
    }

    // Promise 23: "(-9,999 to 9,999)"
    private static void earning() {
        fresh(TWO);
        for (int coins : new int[] {-10000, 10000, LEAST, MOST}) {
            refused(23, 5, "earn", ANN, coins);
        }
        due(23, 10099, "earn", ANN, 9999);
        due(23, 100, "earn", ANN, -9999);
        due(23, -9899, "earn", ANN, -9999);
        due(23, -9899, "earn", ANN, 0);
        due(23, -1, "earn", ANN, 9898);
        due(23, 1, "many", 9);
        due(23, 0, "earn", ANN, 1);
        due(23, 0, "many", 9);
        due(23, 100, "person", BOB, 0);
        due(23, 0, "many", 6);
    }

    // Promise 24: "JURORS (what 0: 1 to 9), FIFTH (1: 0 to 9), PENALTY (2: 0 to 999), SHARE (3: 0 to 16)"
    private static void ruling() {
        fresh(TWO);
        int[] least = {1, 0, 0, 0};
        int[] most = {9, 9, 999, 16};
        int[] now = {5, 1, 100, 8};
        for (int what = 0; what < 4; what++) {
            for (int much : new int[] {least[what] - 1, most[what] + 1, LEAST, MOST}) {
                refused(24, 5, "rule", what, much);
            }
            for (int much : new int[] {least[what], most[what]}) {
                due(24, 1, "rule", what, much);
                now[what] = much;
                for (int other = 0; other < 4; other++) {
                    due(24, now[other], "many", 2 + other);
                }
            }
        }
        for (int what : new int[] {-1, 4, 5, LEAST, MOST}) {
            refused(24, 5, "rule", what, 1);
            refused(24, 5, "rule", what, 0);
            refused(24, 5, "rule", what, -1);
        }
        // From now on: what was HEARD stays.
        fresh(TWO);
        due(17, 150, "charge", ANN, 0, 5);
        due(24, 1, "rule", 0, 1);
        due(24, 5, "deed", 0, 5);
        due(24, 1, "deed", 0, 3);
        refused(17, 5, "charge", ANN, 0, 2);
    }
}
