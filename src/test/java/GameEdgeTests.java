/** The edges that promises 44 to 50 name, and GAME, MOVE, CLUB, GAINED, SURE as the Terms tell them. */
public final class GameEdgeTests extends Trial {
    // GAIN and LOSS are the FINE.
    private static final String SURE = "jurors 1;fifth 0;penalty 0;share 16;person ann;person bob;person cid;";
    private static final int ANN = 0;
    private static final int BOB = 1;
    private static final int CID = 2;

    private GameEdgeTests() {
    }

    public static void main(String[] args) {
        turns();
        turnByTurn();
        notChargedYet();
        asItIsNow();
        whatIsNoMove();
        nothingComesLast();
        gainAndLoss();
        setsOfPeople();
        lessThanTheEvenPart();
        evenParts();
        gainedNumbers();
        gainedMost();
        gainedWays();
        whateverStands();
        sureDeeds();
        bounds();
        Check.end("GameEdgeTests");
    }

    // Promises 44, 45: "n turns (0 to 3)"; "(2; 5: one and himself, too)", "(2; 5: turns 0, too; 8: nothing)"
    private static void turns() {
        fresh(SURE + "deed a of bob fine 5 odds 16;");
        for (int turns : new int[] {-1, 4, LEAST, MOST}) {
            refused(44, 5, "game", ANN, BOB, turns);
            refused(45, 5, "moveOf", ANN, BOB, turns);
            refused(45, 5, "moveOf", BOB, ANN, turns);
        }
        refused(45, 5, "moveOf", ANN, BOB, 0);
        refused(45, 5, "moveOf", BOB, ANN, 0);
        for (int person = 0; person < 3; person++) {
            for (int turns = 0; turns <= 3; turns++) {
                refused(44, 5, "game", person, person, turns);
                refused(45, 5, "moveOf", person, person, turns);
            }
        }
        fraction(44, 0, 1, "game", ANN, BOB, 0);
        for (int turns = 1; turns <= 3; turns++) {
            fraction(44, 10, 1, "game", ANN, BOB, turns);
            due(45, 0, "moveOf", ANN, BOB, turns);
            refused(45, 8, "moveOf", BOB, ANN, turns);
            fraction(44, turns == 1 ? 0 : -10, 1, "game", BOB, ANN, turns);
            fraction(44, 0, 1, "game", ANN, CID, turns);
            refused(45, 8, "moveOf", ANN, CID, turns);
        }
    }

    // "by turns, the first first"
    private static void turnByTurn() {
        fresh(SURE + "deed a of bob fine 5 odds 16;deed b of bob fine 7 odds 16;deed c of bob fine 6 odds 16;"
                + "deed d of ann fine 4 odds 16;deed e of ann fine 8 odds 16;deed f of cid fine 99 odds 16;");
        long[] anns = {0, 14, 14 - 16, 14 - 16 + 12};
        long[] bobs = {0, 16, 16 - 14, 16 - 14 + 8};
        for (int turns = 0; turns <= 3; turns++) {
            fraction(44, anns[turns], 1, "game", ANN, BOB, turns);
            fraction(44, bobs[turns], 1, "game", BOB, ANN, turns);
        }
        due(45, 1, "moveOf", ANN, BOB, 1);
        due(45, 1, "moveOf", ANN, BOB, 2);
        due(45, 1, "moveOf", ANN, BOB, 3);
        due(45, 4, "moveOf", BOB, ANN, 1);
        due(45, 3, "moveOf", BOB, ANN, 3);
        due(17, 100, "charge", CID, 0, 0);
        due(20, 6, "commit", BOB, 7, 16);
        due(45, 1, "moveOf", ANN, BOB, 1);
        fraction(44, 28 - 16, 1, "game", ANN, BOB, 3);
        due(20, 7, "commit", BOB, 8, 16);
        due(45, 7, "moveOf", ANN, BOB, 1);
        due(45, 1, "moveOf", ANN, BOB, 3);
    }

    // "not charged in the GAME yet"
    private static void notChargedYet() {
        fresh(SURE + "deed a of bob fine 5 odds 16;deed b of ann fine 10 odds 16;");
        fraction(44, 10, 1, "game", ANN, BOB, 1);
        fraction(44, -10, 1, "game", ANN, BOB, 2);
        fraction(44, -10, 1, "game", ANN, BOB, 3);
        fraction(44, 10, 1, "game", BOB, ANN, 3);
    }

    // "that he CAN charge (as it is now: COINS do not change by that)"
    private static void asItIsNow() {
        fresh(SURE + "deed a of bob fine 5 odds 16;deed b of ann fine 10 odds 16;deed c of bob fine 4 odds 16;");
        due(23, 0, "earn", BOB, -100);
        fraction(44, -10, 1, "game", ANN, BOB, 2);
        fraction(44, -2, 1, "game", ANN, BOB, 3);
        due(23, -1, "earn", BOB, -1);
        fraction(44, 10, 1, "game", ANN, BOB, 2);
        fraction(44, 18, 1, "game", ANN, BOB, 3);
        refused(45, 8, "moveOf", BOB, ANN, 3);
        due(23, -1, "earn", ANN, -101);
        fraction(44, 0, 1, "game", ANN, BOB, 3);
        refused(45, 8, "moveOf", ANN, BOB, 3);
        due(23, 0, "earn", BOB, 1);
        fraction(44, -20, 1, "game", ANN, BOB, 2);
        due(45, 1, "moveOf", BOB, ANN, 2);
    }

    // What is CLOSED, DROPPED, somebody else's is not charged.
    private static void whatIsNoMove() {
        fresh(SURE + "deed a of bob fine 9 odds 16;deed b of bob fine 8 odds 16;deed c of bob fine 7 odds 16;"
                + "deed d of cid fine 99 odds 16;deed e of ann fine 50 odds 16;");
        due(45, 0, "moveOf", ANN, BOB, 1);
        due(17, 109, "charge", CID, 0, 1);
        due(45, 1, "moveOf", ANN, BOB, 1);
        fraction(44, 16, 1, "game", ANN, BOB, 1);
        due(19, 100, "drop", ANN, 1, 0);
        due(45, 2, "moveOf", ANN, BOB, 1);
        due(45, 1, "moveOf", CID, BOB, 1);
        due(19, 91, "drop", BOB, 4, 0);
        fraction(44, 14, 1, "game", ANN, BOB, 2);
        due(21, 1, "reopen", 0);
        due(45, 0, "moveOf", ANN, BOB, 1);
        fraction(44, 18 + 14, 1, "game", ANN, BOB, 3);
    }

    // "of all that are as good the first; nothing comes last"
    private static void nothingComesLast() {
        fresh(SURE + "deed a of bob fine 9 odds 0;deed b of bob fine 8 odds 0;deed c of ann fine 7 odds 0;");
        for (int turns = 1; turns <= 3; turns++) {
            fraction(44, 0, 1, "game", ANN, BOB, turns);
            due(45, 0, "moveOf", ANN, BOB, turns);
            due(45, 2, "moveOf", BOB, ANN, turns);
        }
        due(19, 100, "drop", ANN, 0, 0);
        due(45, 1, "moveOf", ANN, BOB, 1);
        // The PENALTY is owed for sure: nothing is better.
        due(24, 1, "rule", 1, 1);
        due(24, 1, "rule", 2, 1);
        for (int turns = 1; turns <= 3; turns++) {
            fraction(44, 0, 1, "game", ANN, BOB, turns);
            fraction(44, 0, 1, "game", BOB, ANN, turns);
            refused(45, 8, "moveOf", ANN, BOB, turns);
            refused(45, 8, "moveOf", BOB, ANN, turns);
        }
        due(20, 3, "commit", BOB, 3, 16);
        due(45, 3, "moveOf", ANN, BOB, 1);
        fraction(44, 6, 1, "game", ANN, BOB, 3);
        // Of DEED 9, the last.
        fresh(SURE + times("deed # of bob fine 1 odds 16;", 9) + "deed z of bob fine 2 odds 16;");
        due(45, 9, "moveOf", ANN, BOB, 1);
        due(45, 0, "moveOf", ANN, BOB, 3);
        fraction(44, 6, 1, "game", ANN, BOB, 3);
    }

    // "GAIN is for him, LOSS against the other one"
    private static void gainAndLoss() {
        fresh("jurors 1;penalty 4;share 0;person ann;person bob;deed a of bob fine 10 odds 8;deed b of ann fine 4 odds 8;"
                + "deed c of ann fine 5 odds 8;");
        fraction(30, -2, 1, "gain", ANN, 0);
        fraction(31, 5, 1, "loss", ANN, 0);
        fraction(44, 3, 1, "game", ANN, BOB, 1);
        due(45, 0, "moveOf", ANN, BOB, 1);
        fraction(44, 5, 2, "game", ANN, BOB, 2);
        fraction(44, 1, 2, "game", BOB, ANN, 1);
        fraction(44, -5, 2, "game", BOB, ANN, 2);
        fraction(44, -5, 2, "game", BOB, ANN, 3);
        due(45, 2, "moveOf", BOB, ANN, 1);
        due(45, 1, "moveOf", BOB, ANN, 3);
    }

    // Promises 46, 47: "a set with what there is none of, too" can't be; "5: nobody, too"
    private static void setsOfPeople() {
        for (int people = 0; people <= 8; people++) {
            fresh(times("person p#;", people));
            due(46, 0, "club", 0);
            refused(47, 5, "clubPart", 0);
            int all = (1 << people) - 1;
            due(46, all, "club", all);
            if (people > 0) {
                fraction(47, 0, 1, "clubPart", all);
                due(46, 1 << people - 1, "club", 1 << people - 1);
                fraction(47, 0, 1, "clubPart", 1 << people - 1);
            }
            for (int set : new int[] {-1, all + 1, all + 2, 1 << 8, LEAST, MOST}) {
                refused(46, 5, "club", set);
                refused(47, 5, "clubPart", set);
            }
        }
    }

    // "all whose DREAD is less than the even part of the DREADS of all that are in it leave, all at once; again"
    private static void lessThanTheEvenPart() {
        fresh(SURE + "person dot;deed a of ann fine 10 odds 16;deed b of bob fine 10 odds 16;deed c of cid fine 9 odds 16;");
        due(46, 3, "club", 3);
        due(46, 3, "club", 7);
        due(46, 3, "club", 15);
        due(46, 1, "club", 5);
        due(46, 4, "club", 12);
        due(46, 8, "club", 8);
        due(46, 2, "club", 14);
        // In turn: 2 and 0 of 31, then 9 of 29, then 10 of 20.
        fresh(SURE + "person dot;person eve;deed a of ann fine 2 odds 16;deed b of bob fine 9 odds 16;"
                + "deed c of cid fine 20 odds 16;deed d of eve fine 10 odds 16;");
        due(46, 4, "club", 31);
        due(46, 2, "club", 3);
        due(46, 16, "club", 16 + 8 + 2 + 1);
        // One and two sixteenths: the even part is three by 32.
        fresh(SURE + "deed a of ann fine 1 odds 1;deed b of bob fine 2 odds 1;");
        fraction(47, 3, 32, "clubPart", 3);
        due(46, 2, "club", 3);
        // Eight of them, each more than the one ahead.
        fresh("jurors 1;fifth 0;share 16;" + times("person p#;", 8) + "deed a of pa fine 1 odds 16;deed b of pb fine 2 odds 16;"
                + "deed c of pc fine 4 odds 16;deed d of pd fine 8 odds 16;deed e of pe fine 16 odds 16;"
                + "deed f of pf fine 32 odds 16;deed g of pg fine 64 odds 16;deed h of ph fine 128 odds 16;");
        due(46, 128, "club", 255);
        due(46, 64, "club", 127);
        due(46, 8, "club", 15);
        due(46, 1, "club", 1);
    }

    // Promise 47: "the even part that each of a set pays in the mean, if all stay"
    private static void evenParts() {
        fresh(SURE + "person dot;deed a of ann fine 10 odds 16;deed b of bob fine 5 odds 16;deed c of cid fine 9 odds 8;");
        fraction(47, 10, 1, "clubPart", 1);
        fraction(47, 15, 2, "clubPart", 3);
        fraction(47, 13, 2, "clubPart", 7);
        fraction(47, 39, 8, "clubPart", 15);
        fraction(47, 9, 4, "clubPart", 12);
        fraction(47, 0, 1, "clubPart", 8);
        due(17, 105, "charge", ANN, 1, 1);
        fraction(47, 5, 1, "clubPart", 3);
        due(23, -1, "earn", ANN, -106);
        fraction(47, 10, 1, "clubPart", 1);
    }

    // Promises 48, 49: "(2; 5)", "so much (-9,999 to 9,999)"
    private static void gainedNumbers() {
        fresh("person ann;person bob;deed a of bob fine 20 odds 0;");
        for (int much : new int[] {-10000, 10000, LEAST, MOST}) {
            refused(48, 5, "gained", ANN, much);
            refused(49, 5, "sure", ANN, much);
        }
        for (int much : new int[] {-9999, 9999, 1, -1}) {
            due(48, 0, "gained", ANN, much);
            refused(49, 8, "sure", ANN, much);
        }
        due(48, 1, "gained", ANN, 0);
        due(49, 0, "sure", ANN, 0);
    }

    // Ten DEEDS of the greatest FINE, of the greatest PENALTY.
    private static void gainedMost() {
        fresh("share 16;penalty 999;person ann;person bob;" + times("deed # of bob fine 999 odds 0;", 10));
        due(48, 1, "gained", ANN, 9990);
        due(49, 1023, "sure", ANN, 9990);
        due(48, 1, "gained", ANN, -9990);
        due(49, 0, "sure", ANN, -9990);
        due(48, 0, "gained", ANN, 9991);
        due(48, 0, "gained", ANN, -9991);
        due(48, 0, "gained", ANN, 9989);
        due(48, 10, "gained", ANN, 8991);
        due(49, 0, "sure", ANN, 8991);
        due(50, 9990, "bound", ANN, 0);
        due(50, -9990, "bound", ANN, 1);
        // None won and none owed, one of each, .. five of each.
        due(48, 1 + 90 + 1260 + 4200 + 3150 + 252, "gained", ANN, 0);
        due(24, 1, "rule", 2, 0);
        due(24, 1, "rule", 3, 0);
        due(48, 59049, "gained", ANN, 0);
        due(49, 0, "sure", ANN, 0);
        due(48, 0, "gained", ANN, 1);
        due(24, 1, "rule", 3, 16);
        due(48, 1024, "gained", ANN, 0);
        due(48, 1, "gained", ANN, 9990);
        due(48, 20, "gained", ANN, 8991);
    }

    // "each DEED .. was not charged by a PERSON, or WON by him, or such that he owed the PENALTY"
    private static void gainedWays() {
        fresh("penalty 10;share 8;person ann;person bob;deed a of bob fine 20 odds 0;deed b of bob fine 41 odds 0;"
                + "deed c of ann fine 500 odds 0;");
        int[] sums = {-20, -10, 0, 10, 20, 30};
        int[] ways = {1, 2, 2, 2, 1, 1};
        int[] sure = {0, 0, 0, 0, 2, 3};
        for (int i = 0; i < sums.length; i++) {
            due(48, ways[i], "gained", ANN, sums[i]);
            due(49, sure[i], "sure", ANN, sums[i]);
            due(48, 0, "gained", ANN, sums[i] + 5);
            refused(49, 8, "sure", ANN, sums[i] + 5);
        }
        due(48, 0, "gained", ANN, -30);
        due(48, 0, "gained", ANN, 40);
        due(48, 1, "gained", BOB, 250);
        due(49, 4, "sure", BOB, 250);
        due(48, 1, "gained", BOB, 0);
        due(48, 1, "gained", BOB, -10);
        // Won for nothing is another way than not charged.
        due(24, 1, "rule", 3, 0);
        due(48, 4, "gained", ANN, 0);
        due(48, 4, "gained", ANN, -10);
        due(48, 1, "gained", ANN, -20);
        due(49, 0, "sure", ANN, 0);
    }

    // "each of the three, whether it is OPEN or not, whatever ODDS and FIFTH; he may have no SKILL"
    private static void whateverStands() {
        fresh("penalty 10;share 8;fifth 0;person ann;person bob;person cid;deed a of bob fine 20 odds 16;"
                + "deed b of bob fine 41 odds 0;");
        due(48, 2, "gained", ANN, 0);
        due(48, 1, "gained", ANN, -20);
        due(17, 110, "charge", CID, 0, 5);
        due(19, 100, "drop", ANN, 1, 0);
        due(23, -1, "earn", ANN, -101);
        due(48, 2, "gained", ANN, 0);
        due(48, 1, "gained", ANN, -20);
        due(48, 1, "gained", ANN, 30);
        due(49, 3, "sure", ANN, 30);
        due(50, 30, "bound", ANN, 0);
        due(50, -20, "bound", ANN, 1);
    }

    // "SURE: DEEDS that he has WON in all of these", of DEED 0 to DEED 9
    private static void sureDeeds() {
        fresh("penalty 1;share 16;person ann;person bob;deed a of ann fine 5 odds 0;deed b of bob fine 1 odds 0;"
                + times("deed x# of bob fine 10 odds 0;", 7) + "deed z of bob fine 500 odds 0;");
        due(49, 512, "sure", ANN, 500);
        due(49, 1022, "sure", ANN, 571);
        due(49, 1020, "sure", ANN, 570);
        due(49, 512 + 2, "sure", ANN, 531);
        due(49, 0, "sure", ANN, 10);
        refused(49, 8, "sure", ANN, 572);
        due(49, 1, "sure", BOB, 5);
        due(49, 0, "sure", BOB, -1);
        refused(49, 8, "sure", BOB, -2);
        fresh("person ann;deed a of ann fine 5 odds 0;");
        due(48, 1, "gained", ANN, 0);
        due(49, 0, "sure", ANN, 0);
        refused(49, 8, "sure", ANN, 1);
    }

    // Promise 50: "The most (what 0), the least (1) .. ; STATUS tells NONE from -1 (2; 5)"
    private static void bounds() {
        fresh("penalty 1;share 1;person ann;person bob;person cid;deed a of ann fine 15 odds 0;deed b of bob fine 31 odds 0;");
        for (int what : new int[] {-1, 2, LEAST, MOST}) {
            refused(50, 5, "bound", ANN, what);
        }
        due(50, 1, "bound", ANN, 0);
        due(50, -1, "bound", ANN, 1);
        due(50, 0, "bound", BOB, 0);
        due(50, -1, "bound", BOB, 1);
        due(50, 1, "bound", CID, 0);
        due(50, -2, "bound", CID, 1);
        due(24, 1, "rule", 2, 0);
        due(50, 0, "bound", ANN, 1);
        fresh("person ann;");
        due(50, 0, "bound", ANN, 0);
        due(50, 0, "bound", ANN, 1);
    }
}
