/** Every promise by small cases whose answers were worked out by hand. */
public final class PromiseTests extends Trial {
    private static final String CITY = "jurors 3;fifth 1;penalty 40;share 8;person ann coins 50 skill 4;"
            + "person bob coins 200;person cid coins 30 skill 8;person dot coins 0 skill 2;"
            + "deed theft of bob fine 100 odds 8;deed lie of bob fine 60 odds 4;"
            + "deed corn of cid fine 300 odds 12;deed noise of ann fine 10 odds 16;";
    // One juror, so that all comes by halves: ann and cid may charge bob.
    private static final String HALF = "jurors 1;penalty 10;person ann coins 20;person bob;person cid;"
            + "deed theft of bob fine 100 odds 8;deed lie of bob fine 40 odds 8;";
    // No penalty, all the fine for the accuser, sure votes: GAIN and LOSS are the fine.
    private static final String SURE = "jurors 1;fifth 0;penalty 0;share 16;person ann;person bob;person cid;";
    private static final int ANN = 0;
    private static final int BOB = 1;
    private static final int CID = 2;
    private static final int DOT = 3;

    private PromiseTests() {
    }

    public static void main(String[] args) {
        newObject();
        statusAndFractions();
        trays();
        pouring();
        tape();
        cityFaults();
        yearsFaults();
        seeing();
        charging();
        hearing();
        dropping();
        changing();
        limits();
        chances();
        halves();
        whomToCharge();
        leastGlad();
        shares();
        games();
        clubs();
        past();
        living();
        livingOn();
        marks();
        Check.everyPromise();
        Check.end("PromiseTests");
    }

    private static void newObject() {
        fresh();
        Check.promise(1);
        Check.same("status", story.status(), 0);
        Check.same("top", story.top(), 0);
        Check.same("bottom", story.bottom(), 1);
        Check.same("fault", story.fault(0), -1);
        Check.same("fault's place", story.fault(1), -1);
        long[] facts = {0, 0, 5, 1, 100, 8, 0, 0, 0, 0, 0};
        for (int i = 0; i < facts.length; i++) {
            due(1, facts[i], "many", i);
        }
        for (int i = 0; i < 4; i++) {
            refused(1, 3, "read", i, 0);
        }
        refused(1, 8, "live", 0);
        refused(1, 8, "lived", 0);
        refused(1, 8, "back");
        refused(1, 5, "city", 1);
        due(1, 20, "feed", 0, 0, 0, 0, 0);
    }

    private static void statusAndFractions() {
        fresh(CITY);
        refused(2, 2, "person", 4, 0);
        story.feed(" ");
        story.top();
        story.bottom();
        story.fault(0);
        Check.promise(2);
        Check.same("status behind feed, top, bottom, fault", story.status(), 2);
        Check.same("status behind status", story.status(), 2);
        due(2, 0, "quiet");
        Check.same("status behind quiet", story.status(), 0);
        fraction(3, -35, 128, "gain", DOT, 1);
        fraction(4, -35, 128, "gain", DOT, 1);
        refused(3, 9, "gain", BOB, 0);
        refused(4, 5, "plan", ANN, 11);
        due(3, -35, "top");
        due(4, 128, "bottom");
        fraction(3, 0, 1, "plan", ANN, 0);
        fraction(4, 0, 1, "game", ANN, BOB, 0);
    }

    private static void trays() {
        fresh();
        refused(5, 1, "tray", -1, 0, 5);
        refused(5, 1, "tray", 4, 0, 61);
        refused(5, 1, "tray", 0, -1, -1);
        refused(5, 1, "tray", 0, 4, 5);
        refused(5, 5, "tray", 0, 0, 61);
        refused(5, 5, "tray", 0, 0, Integer.MAX_VALUE);
        refused(5, 6, "tray", 0, 0, -1);
        refused(5, 6, "tray", 0, 0, Integer.MIN_VALUE);
        refused(5, 3, "read", 0, 0);
        due(5, 1, "tray", 0, 0, 60);
        due(5, 0, "read", 0, 59);
        due(6, 1, "write", 0, 59, 7);
        due(7, 7, "read", 0, 59);
        refused(5, 5, "tray", 0, 0, 61);
        due(5, 7, "read", 0, 59);
        due(5, 1, "tray", 0, 0, 60);
        due(5, 0, "read", 0, 59);
        due(5, 1, "tray", 3, 3, 0);
        refused(7, 4, "read", 3, 0);
        long[][] cuts = {{0, 127, 127}, {0, 128, -128}, {0, 255, -1}, {0, 256, 0}, {0, -129, 127}, {1, 32767, 32767},
            {1, 32768, -32768}, {1, -32769, 32767}, {2, 2147483648L, -2147483648L}, {2, 4294967295L, -1},
            {3, Long.MIN_VALUE, Long.MIN_VALUE}, {3, Long.MAX_VALUE, Long.MAX_VALUE}};
        for (long[] cut : cuts) {
            due(5, 1, "tray", 1, cut[0], 1);
            due(6, 1, "write", 1, 0, cut[1]);
            due(7, cut[2], "read", 1, 0);
        }
        refused(6, 1, "write", 4, 0, 1);
        refused(6, 1, "write", -1, 0, 1);
        refused(6, 3, "write", 2, 99, 1);
        refused(6, 4, "write", 1, 1, 1);
        refused(6, 4, "write", 1, -1, 1);
        refused(6, 4, "write", 0, 60, 1);
        due(6, Long.MAX_VALUE, "read", 1, 0);
        refused(7, 1, "read", 4, 0);
        refused(7, 1, "read", -1, 0);
        refused(7, 3, "read", 2, 0);
        refused(7, 4, "read", 1, 1);
        refused(7, 4, "read", 1, -1);
        refused(7, 4, "read", 0, Integer.MIN_VALUE);
        due(7, 1, "write", 0, 0, -1);
        due(7, -1, "read", 0, 0);
    }

    private static void row(int tray, long... due) {
        for (int i = 0; i < due.length; i++) {
            due(8, due[i], "read", tray, i);
        }
    }

    private static void pouring() {
        fresh();
        due(8, 1, "tray", 0, 1, 5);
        due(8, 1, "tray", 1, 1, 4);
        due(8, 1, "tray", 2, 2, 4);
        for (int i = 0; i < 5; i++) {
            due(8, 1, "write", 0, i, i + 1);
        }
        due(8, 1, "pour", 0, 0, 0, 1, 4);
        row(0, 1, 1, 2, 3, 4);
        due(8, 1, "pour", 0, 2, 0, 0, 3);
        row(0, 2, 3, 4, 3, 4);
        due(8, 1, "pour", 0, 1, 1, 2, 2);
        row(1, 0, 0, 3, 4);
        row(0, 2, 3, 4, 3, 4);
        refused(8, 1, "pour", 4, 0, 3, 0, 1);
        refused(8, 1, "pour", 3, 0, 4, 0, 1);
        refused(8, 1, "pour", 0, 0, -1, 0, -1);
        refused(8, 3, "pour", 3, 0, 0, 0, 1);
        refused(8, 3, "pour", 0, 0, 3, 0, -1);
        refused(8, 11, "pour", 0, 9, 2, 0, -1);
        refused(8, 6, "pour", 0, 9, 1, 0, -1);
        refused(8, 6, "pour", 0, 0, 1, 0, Integer.MIN_VALUE);
        refused(8, 4, "pour", 0, 0, 1, 0, 5);
        refused(8, 4, "pour", 0, 2, 1, 0, 4);
        refused(8, 4, "pour", 0, -1, 1, 0, 1);
        refused(8, 4, "pour", 0, 0, 1, -1, 1);
        refused(8, 4, "pour", 0, 6, 1, 0, 0);
        refused(8, 4, "pour", 0, 0, 1, 5, 0);
        refused(8, 4, "pour", 0, Integer.MAX_VALUE, 1, 0, Integer.MAX_VALUE);
        refused(8, 4, "pour", 0, 1, 1, 1, Integer.MAX_VALUE);
        due(8, 1, "pour", 0, 5, 1, 4, 0);
        row(0, 2, 3, 4, 3, 4);
        row(1, 0, 0, 3, 4);
    }

    private static void tape() {
        fresh();
        for (int i = 1; i <= 45; i++) {
            due(9, 20 * i, "feed", 0x20202020, 0x20202020, 0x20202020, 0x20202020, 0x20202020);
        }
        story.call("many", -1);
        due(9, -1, "feed", 0, 0, 0, 0, 0);
        Check.same("status behind feed", story.status(), 5);
        refused(10, 5, "city", 901);
        refused(10, 5, "city", -1);
        refused(10, 5, "city", Integer.MIN_VALUE);
        refused(11, 5, "years", 301);
        refused(11, 5, "years", -1);
        due(9, -1, "feed", 0, 0, 0, 0, 0);
        due(12, -1, "fault", 0);
        due(11, 0, "years", 300);
        due(9, 20, "feed", 0x6a75726f, 0x72732037, 0x3b202020, 0x3b202020, 0);
        due(10, 0, "city", 11);
        due(10, 7, "many", 2);
        refused(10, 5, "city", 1);
        due(10, 0, "city", 0);
        due(10, 5, "many", 2);
        due(11, 0, "years", 0);
        due(11, 0, "live", 7);
        due(12, 0, "fault", 0);
        due(12, -1, "fault", 1);
        due(12, -1, "fault", 2);
        due(12, -1, "fault", -1);
        story.city("jurors 7;person ann;deed lie of ann fine 1 odds 0;");
        story.feed("jurors 9;?");
        refused(10, 10, "city", 10);
        due(12, 1, "fault", 0);
        due(12, 9, "fault", 1);
        refused(12, 5, "city", 1);
        due(12, 1, "fault", 0);
        due(10, 7, "many", 2);
        due(10, 1, "many", 1);
        due(10, 1, "city", story.feed("person bob;\ndeed lie of bob fine 1 odds 0;"));
        due(10, 1, "deed", 0, 1);
        refused(11, 8, "live", 0);
    }

    /** A CITY that must be refused; the old one stays, with all that became of it. */
    private static void noCity(String text, int kind, int place) {
        fresh(CITY);
        due(10, 1, "years", story.feed("earn ann 7;"));
        due(10, 200, "charge", ANN, 2, 2);
        faulty(10, "city", text, kind, place);
    }

    private static void isCity(String text, int deeds) {
        Story old = story;
        fresh();
        due(10, deeds, "city", story.feed(text));
        story = old;
    }

    private static void cityFaults() {
        noCity("Jurors 3;", 1, 0);
        noCity("jurors 3;\t", 1, 9);
        noCity("jurors \u00f33;", 1, 7);
        noCity("jurors 00003;", 1, 7);
        noCity("12345", 1, 0);
        noCity("1234", 2, 0);
        noCity(";", 2, 0);
        noCity("<", 2, 0);
        noCity("end;", 2, 0);
        noCity("ann;", 2, 0);
        noCity("jurors", 2, 6);
        noCity("jurors 3", 2, 8);
        noCity("jurors 3  ", 2, 10);
        noCity("jurors;", 2, 6);
        noCity("jurors 3 3;", 2, 9);
        noCity("jurors 0;", 4, 7);
        noCity("jurors 10;", 4, 7);
        noCity("fifth 10;", 4, 6);
        noCity("penalty 1000;", 4, 8);
        noCity("share 17;", 4, 6);
        noCity("jurors 3;jurors 3;", 5, 9);
        noCity("fifth 0;fifth 0;", 5, 8);
        noCity("penalty 0;penalty 0;", 5, 10);
        noCity("share 0;share 0;", 5, 8);
        noCity("person;", 2, 6);
        noCity("person coins;", 2, 7);
        noCity("person loop;", 2, 7);
        noCity("person 7;", 2, 7);
        noCity("person abcdefghi;", 2, 7);
        noCity("person ann", 2, 10);
        noCity("person ann skill 3 coins 4;", 2, 19);
        noCity("person ann coins 10000;", 1, 17);
        noCity("person ann coins;", 2, 16);
        noCity("person ann skill 17;", 4, 17);
        noCity("person ann coins person bob;", 2, 17);
        noCity("person ann skill person bob;", 2, 17);
        noCity("person ann;deed jurors 3;", 2, 16);
        noCity("person ann;deed a of person bob;", 2, 21);
        noCity("person ann;deed a of ann fine person bob;", 2, 30);
        noCity("person ann;deed a of ann fine 1 odds person bob;", 2, 37);
        noCity("person ann;person ann;", 3, 18);
        noCity("deed lie of ann fine 1 odds 1;", 3, 12);
        noCity("person ann;deed ann of ann fine 1 odds 1;", 3, 16);
        noCity("person ann;deed lie of lie fine 1 odds 1;", 3, 23);
        noCity("person ann;deed a of ann fine 1 odds 1;person a;", 3, 46);
        noCity("person ann;deed a of ann fine 0 odds 1;", 4, 30);
        noCity("person ann;deed a of ann fine 1000 odds 1;", 4, 30);
        noCity("person ann;deed a of ann fine 1 odds 17;", 4, 37);
        noCity("person ann;deed a of ann odds 1;", 2, 25);
        noCity("person ann;deed a of ann fine 1;", 2, 31);
        noCity("person ann;deed a ann fine 1 odds 1;", 2, 18);
        noCity(times("person #;", 9), 6, 72);
        noCity("person p;" + times("deed # of p fine 1 odds 0;", 11), 6, 9 + 260);
        isCity("", 0);
        isCity(" \n ", 0);
        isCity(times("person #;", 8), 0);
        isCity("person p;" + times("deed # of p fine 1 odds 0;", 10), 10);
        isCity("person ab;person ba;person aa;person bbbbbbbb;person abbbbbbb;person bbbbbbba;person abcdefg;", 0);
        isCity("person abcdefgh coins 9999 skill 16;deed a of abcdefgh fine 999 odds 16;", 1);
        isCity("jurors0003;fifth 9;penalty 999;share 16;person ann coins 0 skill 0;", 0);
        isCity("jurors 1;fifth 0;penalty 0;share 0;person coin;person endx;person a;", 0);
    }

    /** YEARS that must be refused; the old ones stay. */
    private static void noYears(String text, int kind, int place) {
        fresh(CITY);
        isYears("earn ann 7;", 1);
        faulty(11, "years", text, kind, place);
    }

    private static void isYears(String text, int steps) {
        due(11, steps, "years", story.feed(text));
        due(12, 0, "fault", 0);
        due(12, -1, "fault", 1);
    }

    private static void yearsFaults() {
        noYears("Any;", 1, 0);
        noYears("any?", 1, 3);
        noYears("any", 2, 3);
        noYears("any;ann;", 2, 4);
        noYears("any;7;", 2, 4);
        noYears("person ann;", 2, 0);
        noYears("end;", 2, 0);
        noYears("loop 2;end;end;", 2, 11);
        noYears("loop 2;end", 2, 10);
        noYears("loop 2;any; ", 2, 12);
        noYears("charge abcdefghi lie;", 2, 7);
        noYears("charge end lie;", 2, 7);
        noYears("charge eve lie;", 3, 7);
        noYears("charge lie ann;", 3, 7);
        noYears("charge ann bob;", 3, 11);
        noYears("drop ann lie for 10000;", 1, 17);
        noYears("drop ann bob for 1;", 3, 9);
        noYears("drop ann lie 1;", 2, 13);
        noYears("earn lie 1;", 3, 5);
        noYears("earn ann 0;", 4, 9);
        noYears("earn ann 1000;", 4, 9);
        noYears("loop 0;", 4, 5);
        noYears("loop 100;", 4, 5);
        noYears("when;", 2, 4);
        noYears("when open ann;", 3, 10);
        noYears("when ruined lie;", 3, 12);
        noYears("when coins lie > 1;", 3, 11);
        noYears("when coins ann ; 1;", 2, 15);
        noYears("when coins ann > ;", 2, 17);
        noYears("when coins ann > 12345;", 1, 17);
        noYears(times("stop;", 31), 6, 150);
        noYears(times("loop 1;", 4), 7, 21);
        noYears("loop 1;when open lie;loop 1;when open lie;", 7, 28);
        noYears(times("any;", 27) + times("loop 1;", 4), 6, 108 + 21);
        fresh(CITY);
        isYears(times("any;", 30), 30);
        isYears(times("any;", 27) + times("loop 1;", 3) + times("end;", 3), 30);
        isYears("loop 99;end;when coins ann<0;end;when coins ann=9999;end;when coins ann > 5;end;", 4);
        isYears(times("loop 1;end;", 26) + "earn ann 8;", 27);
        due(11, 27, "live", 0);
        due(11, 58, "person", ANN, 0);
        isYears("drop ann lie for 0;drop ann lie for 9999;earn ann 1;earn ann 999;", 4);
        story.city(CITY);
        refused(11, 8, "live", 0);
        due(11, 4, "commit", ANN, 5, 5);
        faulty(11, "years", "charge bob a;", 3, 11);
    }

    private static void seeing() {
        fresh(CITY);
        long[] facts = {4, 4, 3, 1, 40, 8, 0, 15, 0, 0, 0};
        for (int i = 0; i < facts.length; i++) {
            due(13, facts[i], "many", i);
        }
        refused(13, 5, "many", 11);
        refused(13, 5, "many", -1);
        due(13, 200, "charge", ANN, 2, 2);
        due(13, 1 + 2 + 8, "many", 7);
        due(13, 4, "many", 8);
        due(13, 4, "many", 9);
        due(13, 1, "many", 10);
        due(13, 150, "many", 6);
        due(14, 200, "person", ANN, 0);
        due(14, 4, "person", ANN, 1);
        due(14, 1, "person", ANN, 2);
        due(14, 0, "person", ANN, 3);
        due(14, 8, "person", ANN, 4);
        due(14, 0, "person", ANN, 5);
        due(14, 3, "person", BOB, 4);
        due(14, 0, "person", DOT, 4);
        due(14, -270, "person", CID, 0);
        refused(14, 2, "person", 4, 6);
        refused(14, 2, "person", -1, 0);
        refused(14, 5, "person", 0, 6);
        refused(14, 5, "person", 0, -1);
        due(15, 2, "deed", 2, 0);
        due(15, 300, "deed", 2, 1);
        due(15, 12, "deed", 2, 2);
        due(15, 1, "deed", 2, 3);
        due(15, 0, "deed", 2, 4);
        due(15, 2, "deed", 2, 5);
        due(15, 0, "deed", 0, 3);
        refused(15, 8, "deed", 0, 4);
        refused(15, 8, "deed", 0, 5);
        refused(15, 5, "deed", 0, 6);
        refused(15, 5, "deed", 0, -1);
        refused(15, 2, "deed", 4, 9);
        refused(15, 2, "deed", -1, 0);
        copying();
    }

    private static void copying() {
        refused(16, 1, "copyCoins", 4);
        refused(16, 1, "copyCoins", -1);
        refused(16, 3, "copyCoins", 0);
        due(16, 1, "tray", 0, 0, 3);
        refused(16, 4, "copyCoins", 0);
        due(16, 1, "tray", 0, 0, 5);
        due(16, 1, "write", 0, 4, 9);
        due(16, 4, "copyCoins", 0);
        long[] coins = {200 - 256, 200 - 256, -270 + 256, 0, 9};
        for (int i = 0; i < coins.length; i++) {
            due(16, coins[i], "read", 0, i);
        }
        due(16, 1, "tray", 1, 2, 4);
        due(16, 4, "copyCoins", 1);
        due(16, -270, "read", 1, 2);
        fresh();
        due(16, 1, "tray", 0, 0, 0);
        due(16, 0, "copyCoins", 0);
    }

    private static void charging() {
        fresh(CITY);
        refused(17, 2, "charge", 4, 0, 9);
        refused(17, 2, "charge", 0, 4, 0);
        refused(17, 2, "charge", -1, 0, 0);
        refused(17, 2, "charge", 0, -1, 0);
        refused(17, 5, "charge", BOB, 0, 4);
        refused(17, 5, "charge", ANN, 0, -1);
        refused(17, 9, "charge", BOB, 0, 3);
        due(17, 0, "many", 10);
        due(17, 50, "charge", ANN, 0, 1);
        due(17, 2, "deed", 0, 3);
        due(17, 0, "person", ANN, 3);
        refused(17, 9, "charge", CID, 0, 1);
        due(17, -40, "charge", DOT, 1, 0);
        due(17, 1, "person", DOT, 3);
        due(17, 40, "many", 6);
        refused(17, 9, "charge", DOT, 2, 0);
        due(17, 350, "charge", BOB, 2, 3);
        due(17, -270, "person", CID, 0);
        due(17, 40 + 150, "many", 6);
        fresh("jurors 4;fifth 9;share 5;person ann;person bob;deed a of bob fine 33 odds 0;deed b of bob fine 33 odds 0;");
        due(17, 0, "charge", ANN, 0, 2);
        due(17, 2, "deed", 0, 3);
        due(17, 1, "person", ANN, 3);
        due(17, 100, "many", 6);
        due(17, 10, "charge", ANN, 1, 3);
        due(17, 123, "many", 6);
        due(17, 67, "person", BOB, 0);
        fresh("jurors 1;fifth 0;person ann;person bob;deed a of bob fine 33 odds 0;");
        due(17, 100, "charge", ANN, 0, 0);
        due(17, 0, "person", ANN, 3);
        due(17, 0, "many", 6);
    }

    private static void hearing() {
        fresh(CITY);
        refused(18, 2, "hear", 4, 0, -1);
        refused(18, 2, "hear", 0, 4, 0);
        refused(18, 5, "hear", BOB, 0, -1);
        refused(18, 5, "hear", ANN, 0, 10000);
        refused(18, 9, "hear", BOB, 0, 0);
        // From seed 0 on the draws by 16 are 14, 2, 1; ANN's chance by the theft is 12.
        due(18, 2, "hear", ANN, 0, 0);
        due(18, 1, "deed", 0, 3);
        due(18, 2, "deed", 0, 5);
        due(18, 100, "person", ANN, 0);
        due(18, 1, "reopen", 0);
        due(18, 1, "train", ANN, 0);
        due(18, 1, "train", BOB, 6);
        // By chance 2 the draws 14, 2, 1 give one vote.
        due(18, 1, "hear", ANN, 0, 0);
        due(18, 2, "deed", 0, 3);
        due(18, 1, "reopen", 0);
        due(18, 1, "train", BOB, 16);
        due(18, 0, "hear", ANN, 0, 9999);
        due(18, 60, "person", ANN, 0);
        due(18, 1, "train", ANN, 16);
        due(18, 3, "hear", ANN, 2, 1234);
    }

    private static void dropping() {
        fresh(CITY);
        refused(19, 2, "drop", 4, 0, -1);
        refused(19, 2, "drop", 0, 4, 1);
        refused(19, 5, "drop", BOB, 0, -1);
        refused(19, 5, "drop", ANN, 0, 10000);
        refused(19, 9, "drop", BOB, 0, 1);
        refused(19, 9, "drop", ANN, 0, 201);
        due(19, 250, "drop", ANN, 0, 200);
        due(19, 0, "person", BOB, 0);
        due(19, 1, "person", ANN, 5);
        due(19, 0, "deed", 0, 3);
        due(19, 0, "can", ANN, 0);
        due(19, 1, "can", CID, 0);
        refused(19, 9, "drop", ANN, 0, 0);
        refused(19, 9, "charge", ANN, 0, 3);
        due(19, 30, "drop", CID, 0, 0);
        due(19, -1, "earn", BOB, -1);
        refused(19, 9, "drop", DOT, 0, 0);
        due(19, 3, "earn", BOB, 4);
        due(19, 0, "drop", DOT, 0, 0);
        due(19, 1, "person", DOT, 5);
        due(19, 0, "many", 10);
    }

    private static void changing() {
        fresh(CITY);
        refused(20, 2, "commit", 4, 0, 0);
        refused(20, 2, "commit", -1, 1, 0);
        refused(20, 5, "commit", 0, 0, 0);
        refused(20, 5, "commit", 0, 1000, 0);
        refused(20, 5, "commit", 0, 1, -1);
        refused(20, 5, "commit", 0, 1, 17);
        for (int d = 4; d < 10; d++) {
            due(20, d, "commit", DOT, 999, 16);
        }
        refused(20, 5, "commit", DOT, 0, 0);
        refused(20, 7, "commit", DOT, 1, 0);
        due(20, 10, "many", 1);
        due(20, 1023, "many", 7);
        due(20, 1008, "person", DOT, 4);
        due(20, 999, "deed", 9, 1);
        due(20, 16, "deed", 9, 2);
        due(20, 0, "deed", 9, 3);
        refused(21, 2, "reopen", 10);
        refused(21, 2, "reopen", -1);
        refused(21, 9, "reopen", 0);
        due(21, 60, "drop", ANN, 0, 10);
        due(21, 60, "drop", ANN, 1, 0);
        due(21, 80, "charge", CID, 0, 2);
        due(21, 1, "reopen", 0);
        refused(21, 9, "reopen", 0);
        due(21, 2, "person", ANN, 5);
        due(21, 1, "can", ANN, 0);
        refused(21, 8, "deed", 0, 4);
        refused(21, 8, "deed", 0, 5);
        due(21, 0, "many", 8);
        due(21, 1, "many", 10);
        due(21, 50, "many", 6);
        due(21, 1, "person", CID, 2);
        due(21, 80, "person", CID, 0);
        due(21, 20, "charge", ANN, 0, 0);
    }

    private static void limits() {
        fresh(CITY);
        refused(22, 2, "train", 4, 17);
        refused(22, 2, "train", -1, 0);
        refused(22, 5, "train", 0, 17);
        refused(22, 5, "train", 0, -1);
        due(22, 1, "train", 0, 16);
        due(22, 16, "person", 0, 1);
        due(22, 1, "train", 0, 0);
        due(22, 8, "chance", 0, 0);
        refused(23, 2, "earn", 4, 10000);
        refused(23, 2, "earn", -1, 0);
        refused(23, 5, "earn", 0, 10000);
        refused(23, 5, "earn", 0, -10000);
        due(23, 10049, "earn", 0, 9999);
        due(23, 50, "earn", 0, -9999);
        due(23, -1, "earn", DOT, -1);
        due(23, 8, "many", 9);
        for (int i = 1; i <= 11; i++) {
            due(23, Math.min(99999, 50 + 9999 * i), "earn", 0, 9999);
            due(23, Math.max(-99999, -1 - 9999 * i), "earn", DOT, -9999);
        }
        due(23, 99999, "earn", 0, 1);
        due(23, -99999, "earn", DOT, -1);
        int[] least = {1, 0, 0, 0};
        int[] most = {9, 9, 999, 16};
        for (int r = 0; r < 4; r++) {
            refused(24, 5, "rule", r, least[r] - 1);
            refused(24, 5, "rule", r, most[r] + 1);
            due(24, 1, "rule", r, least[r]);
            due(24, least[r], "many", 2 + r);
            due(24, 1, "rule", r, most[r]);
            due(24, most[r], "many", 2 + r);
        }
        refused(24, 5, "rule", 4, 1);
        refused(24, 5, "rule", -1, 1);
        treasury();
    }

    private static void treasury() {
        fresh("jurors 1;share 0;penalty 999;person ann;person bob;deed a of bob fine 999 odds 0;");
        for (int i = 1; i <= 102; i++) {
            due(17, 100, "charge", ANN, 0, 1);
            due(21, 1, "reopen", 0);
        }
        due(13, 99999, "many", 6);
        due(17, -99999, "person", BOB, 0);
        due(17, 102, "person", ANN, 2);
        due(17, 102, "many", 10);
        due(17, 100 - 999, "charge", ANN, 0, 0);
        due(13, 99999, "many", 6);
    }

    private static void chances() {
        fresh(CITY);
        refused(25, 2, "can", 4, 0);
        refused(25, 2, "can", 0, 4);
        refused(25, 2, "can", -1, 0);
        due(25, 1, "can", ANN, 0);
        due(25, 0, "can", BOB, 0);
        due(25, -1, "earn", DOT, -1);
        due(25, 0, "can", DOT, 0);
        due(25, 50, "charge", ANN, 0, 1);
        due(25, 0, "can", CID, 0);
        refused(26, 2, "chance", 4, 0);
        refused(26, 2, "chance", 0, -1);
        refused(26, 9, "chance", BOB, 0);
        due(26, 12, "chance", ANN, 0);
        due(26, 10, "chance", DOT, 0);
        due(26, 16, "chance", CID, 3);
        due(26, 4, "chance", BOB, 2);
        due(26, 1, "train", CID, 16);
        due(26, 0, "chance", BOB, 2);
        refused(27, 2, "votes", 4, 0, 9);
        refused(27, 2, "votes", 0, 4, 0);
        refused(27, 5, "votes", BOB, 0, 4);
        refused(27, 5, "votes", ANN, 0, -1);
        refused(27, 9, "votes", BOB, 0, 3);
        fraction(27, 1, 64, "votes", ANN, 0, 0);
        fraction(27, 9, 64, "votes", ANN, 0, 1);
        fraction(27, 27, 64, "votes", ANN, 0, 2);
        fraction(27, 27, 64, "votes", ANN, 0, 3);
        fraction(27, 0, 1, "votes", BOB, 2, 1);
        fraction(27, 1, 1, "votes", BOB, 2, 0);
        winning();
    }

    private static void winning() {
        fraction(28, 27, 32, "wins", ANN, 0);
        fraction(29, 1, 64, "owes", ANN, 0);
        due(28, 1, "rule", 0, 4);
        fraction(28, 189, 256, "wins", ANN, 0);
        due(29, 1, "rule", 1, 9);
        fraction(29, 67, 256, "owes", ANN, 0);
        due(29, 1, "rule", 1, 0);
        fraction(29, 0, 1, "owes", ANN, 0);
        due(28, 1, "rule", 0, 9);
        fraction(28, 0, 1, "wins", BOB, 2);
        fraction(28, 124659, 131072, "wins", ANN, 0);
        refused(28, 2, "wins", 4, 0);
        refused(28, 2, "wins", 0, 4);
        refused(28, 9, "wins", BOB, 0);
        refused(29, 2, "owes", 4, 0);
        refused(29, 2, "owes", 0, 4);
        refused(29, 9, "owes", BOB, 0);
        fresh(CITY);
        due(30, -10, "earn", ANN, -60);
        refused(30, 9, "gain", ANN, 0);
        refused(31, 9, "loss", ANN, 0);
        fraction(28, 27, 32, "wins", ANN, 0);
        refused(30, 2, "gain", 4, 0);
        refused(30, 2, "gain", 0, 4);
        refused(30, 9, "gain", BOB, 0);
        refused(31, 2, "loss", 4, 0);
        refused(31, 2, "loss", 0, 4);
        refused(31, 9, "loss", BOB, 0);
    }

    private static void halves() {
        fresh(HALF);
        fraction(30, 20, 1, "gain", ANN, 0);
        fraction(30, 5, 1, "gain", ANN, 1);
        fraction(31, 50, 1, "loss", ANN, 0);
        due(30, 1, "rule", 2, 999);
        fraction(30, -949, 2, "gain", ANN, 0);
        due(30, 1, "rule", 2, 10);
        due(30, 10, "charge", ANN, 0, 0);
        fraction(30, 20, 1, "gain", ANN, 0);
        fraction(31, 50, 1, "loss", CID, 0);
        due(30, 1, "rule", 3, 1);
        fraction(30, -4, 1, "gain", ANN, 1);
        due(30, 1, "rule", 1, 0);
        fraction(30, 1, 1, "gain", ANN, 1);
        fraction(31, 20, 1, "loss", ANN, 1);
    }

    private static void whomToCharge() {
        fresh(HALF);
        refused(32, 2, "best", 3);
        refused(32, 2, "best", -1);
        refused(32, 8, "best", BOB);
        due(32, 0, "best", ANN);
        refused(33, 2, "plan", 3, 11);
        refused(33, 5, "plan", 0, 11);
        refused(33, 5, "plan", 0, -1);
        fraction(33, 0, 1, "plan", ANN, 0);
        fraction(33, 20, 1, "plan", ANN, 1);
        fraction(33, 25, 1, "plan", ANN, 2);
        fraction(33, 25, 1, "plan", ANN, 10);
        fraction(33, 0, 1, "plan", BOB, 10);
        refused(34, 2, "accuser", 2);
        refused(34, 2, "accuser", -1);
        due(34, 0, "accuser", 0);
        due(34, 1, "train", CID, 1);
        due(34, 2, "accuser", 0);
        refused(35, 2, "dreaded", 3);
        refused(35, 8, "dreaded", ANN);
        due(35, 0, "dreaded", BOB);
        refused(36, 2, "dread", 3);
        fraction(36, 0, 1, "dread", ANN);
        fraction(36, 315, 4, "dread", BOB);
        refused(37, 2, "friend", 2);
        due(37, 0, "friend", 0);
        due(37, 1, "train", CID, 0);
        due(37, 0, "friend", 0);
        due(37, 20, "drop", ANN, 0, 0);
        due(37, 2, "friend", 0);
        due(37, 2, "accuser", 0);
        due(37, 1, "best", ANN);
        due(37, 100, "drop", CID, 0, 0);
        refused(37, 8, "friend", 0);
        refused(34, 8, "accuser", 0);
        due(35, 1, "dreaded", BOB);
        fraction(36, 20, 1, "dread", BOB);
        due(38, 1, "quiet");
        due(38, 1, "rule", 2, 20);
        due(38, 3, "quiet");
        refused(35, 8, "dreaded", BOB);
        fraction(36, 0, 1, "dread", BOB);
        refused(32, 8, "best", ANN);
        refused(34, 8, "accuser", 1);
        due(37, 0, "friend", 1);
        due(38, 80, "charge", CID, 1, 0);
        due(38, 1, "quiet");
        refused(37, 8, "friend", 1);
    }

    // The least GAIN that there is above 0.
    private static void leastGlad() {
        fresh("jurors 9;fifth 0;share 16;person ann;person bob;deed lie of bob fine 1 odds 1;");
        due(28, 1, "wins", ANN, 0);
        due(32, 0, "best", ANN);
        due(34, 0, "accuser", 0);
        due(35, 0, "dreaded", BOB);
        due(38, 0, "quiet");
        due(30, 1, "rule", 0, 1);
        fraction(30, 1, 16, "gain", ANN, 0);
        fraction(36, 1, 16, "dread", BOB);
        due(32, 0, "best", ANN);
        due(34, 0, "accuser", 0);
        due(35, 0, "dreaded", BOB);
        due(38, 1, "rule", 3, 15);
        fraction(30, 0, 1, "gain", ANN, 0);
        due(38, 1, "quiet");
        refused(32, 8, "best", ANN);
        refused(34, 8, "accuser", 0);
        refused(35, 8, "dreaded", BOB);
    }

    private static void shares() {
        fresh(HALF);
        trades();
        refused(40, 2, "leastShare", 2);
        refused(40, 2, "leastShare", -1);
        due(40, 2, "leastShare", 0);
        due(40, 5, "leastShare", 1);
        refused(41, 2, "leastFine", 2);
        due(41, 22, "leastFine", 0);
        refused(42, 2, "mostPenalty", 2);
        due(42, 49, "mostPenalty", 0);
        due(42, 19, "mostPenalty", 1);
        refused(43, 5, "gladBy", 17, 0);
        refused(43, 5, "gladBy", -1, 0);
        refused(43, 5, "gladBy", 0, 1000);
        refused(43, 5, "gladBy", 0, -1);
        due(43, 0, "gladBy", 0, 0);
        due(43, 0, "gladBy", 1, 10);
        due(43, 1, "gladBy", 2, 10);
        due(43, 3, "gladBy", 16, 39);
        due(43, 1, "gladBy", 16, 40);
        due(43, 0, "gladBy", 16, 999);
        due(42, 1, "rule", 1, 0);
        due(42, 999, "mostPenalty", 0);
        due(41, 2, "leastFine", 0);
        due(40, 1, "leastShare", 0);
        due(41, 1, "rule", 3, 1);
        due(41, 16, "leastFine", 0);
        due(41, 1, "rule", 3, 0);
        refused(41, 8, "leastFine", 0);
        refused(42, 8, "mostPenalty", 0);
        due(40, 1, "rule", 1, 1);
        due(40, 1, "rule", 2, 500);
        refused(40, 8, "leastShare", 0);
        due(41, 1, "rule", 3, 8);
        refused(41, 8, "leastFine", 0);
        due(41, 1, "rule", 3, 16);
        due(41, 501, "leastFine", 0);
        due(41, 1, "rule", 2, 0);
        due(41, 1, "leastFine", 0);
        due(41, 1, "rule", 2, 998);
        due(41, 999, "leastFine", 0);
        due(41, 1, "rule", 2, 999);
        refused(41, 8, "leastFine", 0);
        due(42, 1, "rule", 2, 0);
        due(42, 20, "charge", ANN, 0, 0);
        refused(40, 8, "leastShare", 0);
        refused(41, 8, "leastFine", 0);
        refused(42, 8, "mostPenalty", 0);
        due(43, 2, "gladBy", 16, 0);
        due(38, 0, "quiet");
    }

    private static void trades() {
        refused(39, 2, "trade", 3, 0, 2);
        refused(39, 2, "trade", 0, 2, 0);
        refused(39, 5, "trade", BOB, 0, 2);
        refused(39, 5, "trade", ANN, 0, -1);
        refused(39, 9, "trade", BOB, 0, 0);
        due(39, 20, "trade", ANN, 0, 0);
        due(39, 50, "trade", ANN, 0, 1);
        due(39, 1, "train", ANN, 3);
        // Now 11 of 16: 50 * 11 - 10 * 5 = 500 of 16, 100 * 11 = 1100 of 16.
        due(39, 32, "trade", ANN, 0, 0);
        due(39, 68, "trade", ANN, 0, 1);
        due(39, 1, "rule", 1, 0);
        due(39, 1, "rule", 3, 16);
        refused(39, 8, "trade", ANN, 0, 0);
        refused(39, 8, "trade", ANN, 0, 1);
        due(39, 1, "rule", 1, 1);
        due(39, 1, "rule", 3, 8);
        due(39, 1, "rule", 2, 999);
        due(39, 0, "trade", ANN, 0, 0);
        due(39, 1, "rule", 2, 10);
        due(39, 1, "train", ANN, 0);
    }

    private static void games() {
        fresh(SURE + "deed a of ann fine 10 odds 16;deed b of bob fine 5 odds 16;deed c of bob fine 7 odds 16;"
                + "deed d of bob fine 5 odds 16;deed e of cid fine 9 odds 0;");
        refused(44, 2, "game", 3, 0, 4);
        refused(44, 2, "game", 0, 3, 0);
        refused(44, 2, "game", -1, 0, 0);
        refused(44, 5, "game", 0, 0, 1);
        refused(44, 5, "game", 0, 1, 4);
        refused(44, 5, "game", 0, 1, -1);
        fraction(44, 0, 1, "game", ANN, BOB, 0);
        fraction(44, 14, 1, "game", ANN, BOB, 1);
        fraction(44, -6, 1, "game", ANN, BOB, 2);
        fraction(44, 4, 1, "game", ANN, BOB, 3);
        fraction(44, 20, 1, "game", BOB, ANN, 1);
        fraction(44, 6, 1, "game", BOB, ANN, 3);
        refused(45, 2, "moveOf", 3, 0, 0);
        refused(45, 2, "moveOf", 0, 3, 1);
        refused(45, 5, "moveOf", 0, 0, 1);
        refused(45, 5, "moveOf", 0, 1, 0);
        refused(45, 5, "moveOf", 0, 1, 4);
        due(45, 2, "moveOf", ANN, BOB, 1);
        due(45, 2, "moveOf", ANN, BOB, 2);
        due(45, 1, "moveOf", ANN, BOB, 3);
        due(45, 0, "moveOf", BOB, ANN, 3);
        due(45, 4, "moveOf", BOB, CID, 1);
        due(45, 1, "moveOf", CID, BOB, 3);
        due(45, 0, "moveOf", CID, ANN, 3);
        fraction(44, 0, 1, "game", ANN, CID, 1);
        due(45, 1, "rule", 1, 1);
        due(45, 1, "rule", 2, 1);
        refused(45, 8, "moveOf", ANN, CID, 1);
        fraction(44, -20, 1, "game", ANN, CID, 3);
        due(45, 100, "drop", ANN, 2, 0);
        due(45, 1, "moveOf", ANN, BOB, 1);
        due(44, -1, "earn", ANN, -101);
        refused(45, 8, "moveOf", ANN, BOB, 2);
        fraction(44, -20, 1, "game", ANN, BOB, 2);
        fraction(44, 20, 1, "game", BOB, ANN, 1);
    }

    private static void clubs() {
        fresh(SURE + "person dot;deed a of ann fine 30 odds 16;deed b of bob fine 10 odds 16;deed c of cid fine 2 odds 16;"
                + "deed d of bob fine 9 odds 16;");
        refused(46, 5, "club", -1);
        refused(46, 5, "club", 16);
        refused(46, 5, "club", Integer.MIN_VALUE);
        due(46, 0, "club", 0);
        due(46, 1, "club", 7);
        due(46, 1, "club", 3);
        due(46, 2, "club", 2 + 4);
        due(46, 8, "club", 8);
        due(46, 1, "club", 15);
        due(46, 4, "club", 12);
        due(46, 20, "earn", CID, -80);
        refused(47, 5, "clubPart", 0);
        refused(47, 5, "clubPart", -1);
        refused(47, 5, "clubPart", 16);
        fraction(47, 17, 1, "clubPart", 7);
        fraction(47, 51, 4, "clubPart", 15);
        fraction(47, 0, 1, "clubPart", 8);
        due(46, 130, "charge", BOB, 0, 1);
        due(46, 20, "charge", CID, 1, 0);
        due(46, 20, "charge", CID, 3, 0);
        due(46, 4, "club", 15);
        due(46, 109, "earn", BOB, -21);
        due(46, 22, "earn", CID, 2);
        due(46, 102, "charge", DOT, 2, 1);
        due(46, 15, "club", 15);
    }

    private static void past() {
        fresh("penalty 10;person ann;person bob;deed a of bob fine 20 odds 0;deed b of bob fine 41 odds 0;"
                + "deed c of ann fine 500 odds 0;");
        refused(48, 2, "gained", 2, 10000);
        refused(48, 2, "gained", -1, 0);
        refused(48, 5, "gained", 0, 10000);
        refused(48, 5, "gained", 0, -10000);
        due(48, 2, "gained", ANN, 0);
        due(48, 2, "gained", ANN, 10);
        due(48, 1, "gained", ANN, 20);
        due(48, 1, "gained", ANN, 30);
        due(48, 2, "gained", ANN, -10);
        due(48, 1, "gained", ANN, -20);
        due(48, 0, "gained", ANN, 5);
        due(48, 0, "gained", ANN, 9999);
        due(48, 0, "gained", ANN, -9999);
        due(48, 1, "gained", BOB, 250);
        refused(49, 2, "sure", 2, 0);
        refused(49, 5, "sure", 0, 10000);
        refused(49, 5, "sure", 0, -10000);
        refused(49, 8, "sure", ANN, 5);
        due(49, 0, "sure", ANN, 0);
        due(49, 0, "sure", ANN, 10);
        due(49, 2, "sure", ANN, 20);
        due(49, 3, "sure", ANN, 30);
        due(49, 4, "sure", BOB, 250);
        refused(50, 2, "bound", 2, 0);
        refused(50, 5, "bound", 0, 2);
        refused(50, 5, "bound", 0, -1);
        due(50, 30, "bound", ANN, 0);
        due(50, -20, "bound", ANN, 1);
        due(50, 250, "bound", BOB, 0);
        due(50, -10, "bound", BOB, 1);
        due(48, 1, "rule", 2, 0);
        due(48, 4, "gained", ANN, 0);
        due(48, 2, "gained", ANN, 10);
        due(49, 1, "sure", ANN, 10);
        due(50, 0, "bound", ANN, 1);
        due(48, 1, "rule", 3, 0);
        due(48, 9, "gained", ANN, 0);
        due(49, 0, "sure", ANN, 0);
        due(48, 1, "rule", 2, 1);
        due(50, -1, "bound", BOB, 1);
        due(49, 0, "sure", ANN, -2);
        fresh("person ann;");
        due(48, 1, "gained", ANN, 0);
        due(49, 0, "sure", ANN, 0);
        due(50, 0, "bound", ANN, 0);
        fresh("share 0;penalty 0;person ann;person bob;" + times("deed # of bob fine 1 odds 0;", 10));
        due(48, 59049, "gained", ANN, 0);
        due(48, 1, "gained", BOB, 0);
    }

    private static void lives(int promise, String years, int seed, int steps, int... facts) {
        due(promise, 0, "years", 0);
        Check.that("the years are taken: " + years, story.years(years) >= 0 && story.status() == 0);
        due(promise, steps, "live", seed);
        for (int i = 0; i < facts.length; i++) {
            due(52, facts[i], "lived", i);
        }
    }

    private static void living() {
        fresh("jurors 3;penalty 40;person ann;person bob;deed lie of bob fine 50 odds 16;deed oath of bob fine 50 odds 0;");
        refused(51, 5, "live", -1);
        refused(51, 5, "live", 10000);
        refused(51, 8, "live", 9999);
        refused(52, 5, "lived", 5);
        refused(52, 5, "lived", -1);
        refused(52, 8, "lived", 4);
        lives(51, "charge ann lie;charge ann oath;charge ann lie;", 5, 3, 1, 2, 1, 1, 0);
        due(51, 100 + 25 - 40, "person", ANN, 0);
        due(51, 50, "person", BOB, 0);
        due(51, 25 + 40, "many", 6);
        due(51, 3, "deed", 0, 5);
        due(51, 2, "many", 10);
        refused(52, 5, "live", -1);
        due(52, 1, "lived", 0);
        lives(51, "drop ann lie for 1;earn ann 5;", 0, 2, 1, 0, 0, 0, 0);
        due(51, 90, "person", ANN, 0);
        due(51, 1, "reopen", 0);
        lives(51, "drop ann lie for 51;drop ann lie for 50;drop ann lie for 0;", 0, 3, 2, 0, 0, 0, 0);
        due(51, 140, "person", ANN, 0);
        due(51, 0, "person", BOB, 0);
        due(51, 1, "person", ANN, 5);
        lives(51, "when open lie;earn ann 1;end;when open oath;earn ann 2;end;", 0, 3, 0);
        due(51, 141, "person", ANN, 0);
        lives(51, "when ruined bob;earn ann 1;end;when coins bob<1;earn ann 2;end;when coins bob=0;earn ann 4;end;"
                + "when coins bob>0;earn ann 8;end;when coins bob < 0;earn ann 16;end;", 0, 7, 0);
        due(51, 147, "person", ANN, 0);
        due(51, -1, "earn", BOB, -1);
        lives(51, "when ruined bob;earn ann 1;stop;end;earn ann 100;", 0, 3, 0, 0, 0, 0, 0);
        due(51, 148, "person", ANN, 0);
        // From seed 0 on the first draws by 2 are 0 (ANN) and 0 (the lie, that she dropped).
        lives(51, "any;", 0, 1, 1, 0, 0, 0, 0);
        due(51, 0, "city", story.feed("person ann;"));
        due(52, 1, "lived", 0);
        lives(51, "any;any;", 0, 2, 2, 0, 0, 0, 0);
        due(51, 0, "city", 0);
        lives(51, "any;", 9999, 1, 1, 0, 0, 0, 0);
    }

    private static void livingOn() {
        fresh(SURE + "deed lie of bob fine 1 odds 16;");
        lives(51, "loop 99;end;", 0, 1, 0, 0, 0, 0, 0);
        lives(51, "loop 99;loop 98;end;end;earn ann 1;", 0, 101, 0, 0, 0, 0, 0);
        due(51, 101, "person", ANN, 0);
        String full = "loop 99;earn ann 1;end;loop 99;earn ann 1;end;loop 99;earn ann 1;end;";
        lives(52, full, 0, 300, 0, 0, 0, 0, 0);
        due(51, 101 + 297, "person", ANN, 0);
        lives(52, full + "stop;", 0, 300, 0, 0, 0, 0, 1);
        lives(52, full + "loop 9;end;", 0, 300, 0, 0, 0, 0, 1);
        lives(52, "loop 99;earn ann 1;end;loop 99;earn ann 1;end;loop 98;earn ann 1;end;stop;stop;", 0, 300, 0, 0, 0, 0, 0);
        lives(52, "loop 99;loop 99;loop 99;end;end;end;", 0, 300, 0, 0, 0, 0, 1);
        lives(52, "loop 2;loop 3;loop 4;earn bob 1;end;end;end;", 0, 1 + 2 + 6 + 24, 0);
        due(51, 124, "person", BOB, 0);
        lives(52, "loop 3;when open lie;charge ann lie;end;end;", 0, 1 + 3 + 1, 0, 1, 1, 0, 0);
        meaning();
    }

    private static void meaning() {
        fresh("jurors 1;fifth 1;penalty 40;person ann;person bob;deed lie of bob fine 100 odds 15;");
        refused(53, 8, "mean", 0, 1);
        refused(53, 5, "mean", -1, 1);
        due(53, 1, "years", story.feed("charge ann lie;"));
        refused(53, 5, "mean", -1, 1);
        refused(53, 5, "mean", 10000, 1);
        refused(53, 5, "mean", 0, 0);
        refused(53, 5, "mean", 0, 21);
        refused(53, 5, "mean", 9999, 2);
        refused(53, 5, "mean", 9981, 20);
        refused(53, 5, "mean", Integer.MAX_VALUE, 20);
        due(53, 1, "mean", 9999, 1);
        due(53, 1, "mean", 9980, 20);
        // By seed 1 the first draw by 16 is 13710 / 8 = 1713, 1: a vote. By seed 0 it is 14, one too.
        fraction(53, 50, 1, "mean", 0, 2);
        due(53, 0, "many", 10);
        due(53, 100, "person", ANN, 0);
        refused(52, 8, "lived", 0);
        due(53, 1, "train", BOB, 1);
        // By chance 14 the draw 14 is no vote any more: the penalty is owed by seed 0.
        fraction(53, 45, 1, "mean", 0, 2);
        fraction(53, 40, 1, "mean", 0, 1);
        due(53, 1, "live", 0);
        due(53, 40, "many", 6);
        fraction(53, 40, 1, "mean", 0, 20);
    }

    private static void marks() {
        fresh(CITY);
        refused(55, 8, "back");
        due(54, 2, "years", story.feed("earn ann 1;earn bob 1;"));
        due(54, 1, "mark");
        due(54, 53, "earn", ANN, 3);
        due(54, 2, "mark");
        changeAll();
        due(54, 3, "mark");
        refused(54, 7, "mark");
        due(55, 1, "city", story.feed("person eve;deed own of eve fine 1 odds 1;"));
        refused(54, 7, "mark");
        refused(11, 10, "years", story.feed("earn ann 1;"));
        fraction(55, 0, 1, "plan", 0, 0);
        story.feed("earn ");
        due(55, 2, "back");
        Check.same("the fault stays", story.fault(0), 3);
        due(55, 9, "read", 0, 0);
        due(55, 40, "feed", 0, 0, 0, 0, 0);
        due(55, 5, "many", 1);
        due(55, 1, "many", 10);
        due(55, 9, "many", 2);
        due(55, 1, "person", CID, 1);
        due(55, 1, "live", 0);
        due(55, 1, "back");
        seenBack(53);
        due(54, 2, "mark");
        due(55, 1, "back");
        due(55, 0, "back");
        seenBack(50);
        due(52, 0, "lived", 0);
        due(55, 2, "live", 0);
        due(55, 51, "person", ANN, 0);
        due(55, 201, "person", BOB, 0);
        refused(55, 8, "back");
    }

    private static void changeAll() {
        due(54, 5, "charge", DOT, 3, 3);
        due(54, 203, "drop", BOB, 2, 3);
        due(54, 4, "commit", BOB, 999, 16);
        due(54, 1, "train", CID, 1);
        due(54, 1, "rule", 0, 9);
        due(54, 1, "rule", 1, 9);
        due(54, 1, "rule", 2, 9);
        due(54, 1, "rule", 3, 9);
        due(54, 1, "tray", 0, 0, 1);
        due(54, 1, "write", 0, 0, 9);
        due(54, 1, "years", story.feed("any;"));
    }

    private static void seenBack(int coinsOfAnn) {
        long[] facts = {4, 4, 3, 1, 40, 8, 0, 15, 0, 0, 0};
        for (int i = 0; i < facts.length; i++) {
            due(55, facts[i], "many", i);
        }
        long[] coins = {coinsOfAnn, 200, 30, 0};
        long[] skills = {4, 0, 8, 2};
        for (int p = 0; p < 4; p++) {
            due(55, coins[p], "person", p, 0);
            due(55, skills[p], "person", p, 1);
            due(55, 0, "person", p, 2);
            due(55, 0, "person", p, 5);
        }
    }
}
