import java.util.Arrays;

/** A city without a public accuser; ../shared/DOC.md says what every call answers. */
public final class HalfAccuser {
    public static final int NONE = -1;

    private static final int DONE = 0;
    private static final int NO_TRAY = 1;
    private static final int NO_SUCH = 2;
    private static final int MISSING = 3;
    private static final int NO_PLACE = 4;
    private static final int BAD_NUMBER = 5;
    private static final int BELOW_ZERO = 6;
    private static final int TOO_MANY = 7;
    private static final int NOTHING = 8;
    private static final int CANNOT = 9;
    private static final int FAULTY = 10;
    private static final int UNLIKE = 11;

    private static final int MOST_PEOPLE = 8;
    private static final int MOST_DEEDS = 10;
    private static final int MOST_JURORS = 9;
    private static final int MOST_SKILL = 16;
    private static final int MOST_ODDS = 16;
    private static final int MOST_FINE = 999;
    private static final int MOST_PENALTY = 999;
    private static final int MOST_SHARE = 16;
    private static final int MOST_PAY = 9999;
    private static final int MOST_SEED = 9999;
    private static final int MOST_SEEDS = 20;
    private static final int MOST_TURNS = 3;
    private static final int MOST_MARKS = 3;
    private static final int MOST_YEARS_BYTES = 300;

    // The words that no NAME may be, each closed by a blank; the numbers below are their places.
    private static final String KEYWORDS =
            "jurors fifth penalty share person coins skill deed of fine odds charge drop for earn any when open ruined loop end stop ";
    private static final int JURORS = 0;
    private static final int FIFTH = 1;
    private static final int PENALTY = 2;
    private static final int SHARE = 3;
    private static final int PERSON = 4;
    private static final int COINS = 5;
    private static final int SKILL = 6;
    private static final int DEED = 7;
    private static final int OF = 8;
    private static final int FINE = 9;
    private static final int ODDS = 10;
    private static final int CHARGE = 11;
    private static final int DROP = 12;
    private static final int FOR = 13;
    private static final int EARN = 14;
    private static final int ANY = 15;
    private static final int WHEN = 16;
    private static final int OPEN = 17;
    private static final int RUINED = 18;
    private static final int LOOP = 19;
    private static final int END = 20;
    private static final int STOP = 21;

    // By the words' numbers: JURORS, FIFTH, PENALTY, SHARE.
    private static final int RULES = 4;
    private static final int[] FIRST_RULES = {5, 1, 100, 8};
    private static final int[] LEAST_RULES = {1, 0, 0, 0};
    private static final int[] MOST_RULES = {9, 9, 999, 16};

    private final Trays trays = new Trays();
    private final Tape tape = new Tape();
    private final City city = new City();
    private final City spare = new City();
    private final City[] marks = new City[MOST_MARKS];
    private final CityReader cityReader = new CityReader(tape, spare);
    private final YearsReader yearsReader = new YearsReader(tape, city, spare.years);
    private final Hopes hopes = new Hopes(city);
    private final Games games = new Games(city, hopes);
    private final Past past = new Past(city);
    private final Life life = new Life();
    private final int[] livedFacts = new int[Life.FACTS];
    private boolean hasLived;
    private int marked;
    private int latestStatus;
    private int latestFault = NONE;
    private int latestFaultPlace = NONE;
    private long fractionTop;
    private long fractionBottom = 1;

    public HalfAccuser() {
        for (int i = 0; i < marks.length; i++) {
            marks[i] = new City();
        }
    }

    public int status() {
        return latestStatus;
    }

    public long top() {
        return fractionTop;
    }

    public long bottom() {
        return fractionBottom;
    }

    // ---- TRAYS

    public boolean tray(int tray, int sort, int many) {
        return settled(trays.make(tray, sort, many));
    }

    public boolean write(int tray, int place, long v) {
        int refusal = trays.placeStatus(tray, place);
        if (refusal == DONE) {
            trays.set(tray, place, v);
        }
        return settled(refusal);
    }

    public long read(int tray, int place) {
        int refusal = trays.placeStatus(tray, place);
        latestStatus = refusal;
        return refusal == DONE ? trays.get(tray, place) : NONE;
    }

    public boolean pour(int tray, int i, int to, int j, int many) {
        int refusal = trays.pourStatus(tray, i, to, j, many);
        if (refusal == DONE) {
            trays.move(tray, i, to, j, many);
        }
        return settled(refusal);
    }

    // ---- texts

    public int feed(int a, int b, int c, int d, int e) {
        if (!tape.hasRoom()) {
            return NONE;
        }
        tape.add(a);
        tape.add(b);
        tape.add(c);
        tape.add(d);
        tape.add(e);
        return tape.length;
    }

    public int city(int n) {
        if (n < 0 || n > tape.length) {
            return refused(BAD_NUMBER);
        }
        tape.split(n);
        if (!tellFault(cityReader.readText())) {
            return refused(FAULTY);
        }
        city.copyFrom(spare);
        return told(city.deeds);
    }

    public int years(int n) {
        if (n < 0 || n > tape.length || n > MOST_YEARS_BYTES) {
            return refused(BAD_NUMBER);
        }
        tape.split(n);
        if (!tellFault(yearsReader.readText())) {
            return refused(FAULTY);
        }
        city.years.copyFrom(spare.years);
        return told(city.years.steps);
    }

    public int fault(int what) {
        if (what == 0) {
            return latestFault;
        }
        return what == 1 ? latestFaultPlace : NONE;
    }

    public int many(int what) {
        if (what < 0 || what >= City.FACTS) {
            return refused(BAD_NUMBER);
        }
        return told(city.fact(what));
    }

    public int person(int person, int what) {
        if (!city.hasPerson(person)) {
            return refused(NO_SUCH);
        }
        if (what < 0 || what >= City.PERSON_FACTS) {
            return refused(BAD_NUMBER);
        }
        return told(city.personFact(person, what));
    }

    public int deed(int deed, int what) {
        if (!city.hasDeed(deed)) {
            return refused(NO_SUCH);
        }
        if (what < 0 || what >= City.DEED_FACTS) {
            return refused(BAD_NUMBER);
        }
        if (what >= City.HEARD_FACTS && city.isOpen(deed)) {
            return refused(NOTHING);
        }
        return told(city.deedFact(deed, what));
    }

    public int copyCoins(int tray) {
        int refusal = trays.roomStatus(tray, city.people);
        if (refusal != DONE) {
            return refused(refusal);
        }
        for (int p = 0; p < city.people; p++) {
            trays.set(tray, p, at(city.coins, p));
        }
        return told(city.people);
    }

    // ---- what is done

    public int charge(int person, int deed, int votes) {
        if (!areThere(person, deed)) {
            return refused(NO_SUCH);
        }
        if (votes < 0 || votes > city.ruleOf(JURORS)) {
            return refused(BAD_NUMBER);
        }
        if (!city.mayCharge(person, deed)) {
            return refused(CANNOT);
        }
        city.decide(person, deed, votes);
        return told(at(city.coins, person));
    }

    public int hear(int person, int deed, int seed) {
        if (!areThere(person, deed)) {
            return refused(NO_SUCH);
        }
        if (seed < 0 || seed > MOST_SEED) {
            return refused(BAD_NUMBER);
        }
        if (!city.mayCharge(person, deed)) {
            return refused(CANNOT);
        }
        life.sow(seed);
        int votes = life.jury(city, person, deed);
        city.decide(person, deed, votes);
        return told(votes);
    }

    public int drop(int person, int deed, int coins) {
        if (!areThere(person, deed)) {
            return refused(NO_SUCH);
        }
        if (coins < 0 || coins > MOST_PAY) {
            return refused(BAD_NUMBER);
        }
        if (!city.mayDrop(person, deed, coins)) {
            return refused(CANNOT);
        }
        city.settle(person, deed, coins);
        return told(at(city.coins, person));
    }

    public int commit(int person, int fine, int odds) {
        if (!city.hasPerson(person)) {
            return refused(NO_SUCH);
        }
        if (fine < 1 || fine > MOST_FINE || odds < 0 || odds > MOST_ODDS) {
            return refused(BAD_NUMBER);
        }
        if (city.deeds >= MOST_DEEDS) {
            return refused(TOO_MANY);
        }
        return told(city.addDeed(City.NAMELESS, person, fine, odds));
    }

    public boolean reopen(int deed) {
        if (!city.hasDeed(deed)) {
            return settled(NO_SUCH);
        }
        if (city.isOpen(deed)) {
            return settled(CANNOT);
        }
        city.openAgain(deed);
        return settled(DONE);
    }

    public boolean train(int person, int skill) {
        if (!city.hasPerson(person)) {
            return settled(NO_SUCH);
        }
        if (skill < 0 || skill > MOST_SKILL) {
            return settled(BAD_NUMBER);
        }
        put(city.skills, person, skill);
        return settled(DONE);
    }

    public int earn(int person, int coins) {
        if (!city.hasPerson(person)) {
            return refused(NO_SUCH);
        }
        if (coins < -MOST_PAY || coins > MOST_PAY) {
            return refused(BAD_NUMBER);
        }
        city.give(person, coins);
        return told(at(city.coins, person));
    }

    public boolean rule(int what, int much) {
        if (what < 0 || what >= RULES || much < at(LEAST_RULES, what) || much > at(MOST_RULES, what)) {
            return settled(BAD_NUMBER);
        }
        put(city.rules, what, much);
        return settled(DONE);
    }

    // ---- votes

    public int can(int person, int deed) {
        if (!areThere(person, deed)) {
            return refused(NO_SUCH);
        }
        return told(city.mayCharge(person, deed) ? 1 : 0);
    }

    public int chance(int person, int deed) {
        int refusal = voteStatus(person, deed);
        if (refusal != DONE) {
            return refused(refusal);
        }
        return told(city.chanceOf(person, deed));
    }

    public boolean votes(int person, int deed, int many) {
        if (!areThere(person, deed)) {
            return settled(NO_SUCH);
        }
        if (many < 0 || many > city.ruleOf(JURORS)) {
            return settled(BAD_NUMBER);
        }
        if (city.isOwn(person, deed)) {
            return settled(CANNOT);
        }
        hopes.weigh(city.chanceOf(person, deed));
        return tell(at(hopes.ways, many), hopes.whole());
    }

    public boolean wins(int person, int deed) {
        int refusal = voteStatus(person, deed);
        if (refusal != DONE) {
            return settled(refusal);
        }
        hopes.weigh(city.chanceOf(person, deed));
        return tell(hopes.waysToWin(), hopes.whole());
    }

    public boolean owes(int person, int deed) {
        int refusal = voteStatus(person, deed);
        if (refusal != DONE) {
            return settled(refusal);
        }
        hopes.weigh(city.chanceOf(person, deed));
        return tell(hopes.waysToOwe(), hopes.whole());
    }

    public boolean gain(int person, int deed) {
        int refusal = meanStatus(person, deed);
        if (refusal != DONE) {
            return settled(refusal);
        }
        return tell(seen().gainOf(person, deed), hopes.whole());
    }

    public boolean loss(int person, int deed) {
        int refusal = meanStatus(person, deed);
        if (refusal != DONE) {
            return settled(refusal);
        }
        return tell(seen().lossOf(person, deed), hopes.whole());
    }

    // ---- whom to charge

    public int best(int person) {
        if (!city.hasPerson(person)) {
            return refused(NO_SUCH);
        }
        return toldIfAny(seen().bestDeed(person));
    }

    public boolean plan(int person, int n) {
        if (!city.hasPerson(person)) {
            return settled(NO_SUCH);
        }
        if (n < 0 || n > MOST_DEEDS) {
            return settled(BAD_NUMBER);
        }
        return tell(seen().bestSum(person, n), hopes.whole());
    }

    public int accuser(int deed) {
        if (!city.hasDeed(deed)) {
            return refused(NO_SUCH);
        }
        return toldIfAny(seen().bestAccuser(deed));
    }

    public int dreaded(int person) {
        if (!city.hasPerson(person)) {
            return refused(NO_SUCH);
        }
        return toldIfAny(seen().worstDeed(person));
    }

    public boolean dread(int person) {
        if (!city.hasPerson(person)) {
            return settled(NO_SUCH);
        }
        return tell(seen().dreadOf(person), hopes.whole());
    }

    public int friend(int deed) {
        if (!city.hasDeed(deed)) {
            return refused(NO_SUCH);
        }
        return toldIfAny(seen().mildestAccuser(deed));
    }

    public int quiet() {
        return told(city.openDeeds() & ~seen().gladSet(city.ruleOf(SHARE), city.ruleOf(PENALTY)));
    }

    public int trade(int person, int deed, int what) {
        if (!areThere(person, deed)) {
            return refused(NO_SUCH);
        }
        if (what < 0 || what > 1) {
            return refused(BAD_NUMBER);
        }
        if (!city.mayCharge(person, deed)) {
            return refused(CANNOT);
        }
        int fewest = seen().fewestCoins(person, deed);
        int most = hopes.mostCoins(person, deed);
        if (fewest > most) {
            return refused(NOTHING);
        }
        return told(what == 0 ? fewest : most);
    }

    // ---- shares and fines

    public int leastShare(int deed) {
        if (!city.hasDeed(deed)) {
            return refused(NO_SUCH);
        }
        return toldIfAny(seen().leastGladShare(deed));
    }

    public int leastFine(int deed) {
        if (!city.hasDeed(deed)) {
            return refused(NO_SUCH);
        }
        return toldIfAny(seen().leastGladFine(deed));
    }

    public int mostPenalty(int deed) {
        if (!city.hasDeed(deed)) {
            return refused(NO_SUCH);
        }
        return toldIfAny(seen().mostGladPenalty(deed));
    }

    public int gladBy(int share, int penalty) {
        if (share < 0 || share > MOST_SHARE || penalty < 0 || penalty > MOST_PENALTY) {
            return refused(BAD_NUMBER);
        }
        return told(seen().gladSet(share, penalty));
    }

    // ---- two, clubs

    public boolean game(int person, int other, int turns) {
        int refusal = gameStatus(person, other, turns, 0);
        if (refusal != DONE) {
            return settled(refusal);
        }
        hopes.see();
        games.setGame(person, other, turns);
        return tell(games.outcome(), hopes.whole());
    }

    public int moveOf(int person, int other, int turns) {
        int refusal = gameStatus(person, other, turns, 1);
        if (refusal != DONE) {
            return refused(refusal);
        }
        hopes.see();
        games.setGame(person, other, turns);
        return toldIfAny(games.firstMove());
    }

    public int club(int people) {
        if (!city.isSet(people)) {
            return refused(BAD_NUMBER);
        }
        hopes.see();
        games.setClub();
        return told(games.stayers(people));
    }

    public boolean clubPart(int people) {
        if (people == 0 || !city.isSet(people)) {
            return settled(BAD_NUMBER);
        }
        hopes.see();
        games.setClub();
        return tell(games.sumOfDreads(people), hopes.whole() * Integer.bitCount(people));
    }

    // ---- what was gained

    public int gained(int person, int much) {
        int refusal = pastStatus(person, much);
        if (refusal != DONE) {
            return refused(refusal);
        }
        past.look(person, much);
        return told(past.ways);
    }

    public int sure(int person, int much) {
        int refusal = pastStatus(person, much);
        if (refusal != DONE) {
            return refused(refusal);
        }
        past.look(person, much);
        return past.ways == 0 ? refused(NOTHING) : told(past.always);
    }

    public int bound(int person, int what) {
        if (!city.hasPerson(person)) {
            return refused(NO_SUCH);
        }
        if (what < 0 || what > 1) {
            return refused(BAD_NUMBER);
        }
        return told(what == 0 ? past.most(person) : past.least(person));
    }

    // ---- YEARS

    public int live(int seed) {
        if (seed < 0 || seed > MOST_SEED) {
            return refused(BAD_NUMBER);
        }
        if (!city.years.there) {
            return refused(NOTHING);
        }
        life.run(city, seed);
        copy(life.facts, livedFacts);
        hasLived = true;
        return told(life.steps);
    }

    public int lived(int what) {
        if (what < 0 || what >= Life.FACTS) {
            return refused(BAD_NUMBER);
        }
        return hasLived ? told(at(livedFacts, what)) : refused(NOTHING);
    }

    public boolean mean(int seed, int many) {
        if (seed < 0 || seed > MOST_SEED || many < 1 || many > MOST_SEEDS || seed + many - 1 > MOST_SEED) {
            return settled(BAD_NUMBER);
        }
        if (!city.years.there) {
            return settled(NOTHING);
        }
        long sum = 0;
        for (int i = 0; i < many; i++) {
            spare.copyFrom(city);
            life.run(spare, seed + i);
            sum += spare.treasury;
        }
        return tell(sum, many);
    }

    // ---- MARKS

    public int mark() {
        if (marked < 0 || marked >= marks.length) {
            return refused(TOO_MANY);
        }
        City kept = marks[marked];
        if (kept == null) {
            return refused(TOO_MANY);
        }
        kept.copyFrom(city);
        marked++;
        return told(marked);
    }

    public int back() {
        int latest = marked - 1;
        if (latest < 0 || latest >= marks.length) {
            return refused(NOTHING);
        }
        City kept = marks[latest];
        if (kept == null) {
            return refused(NOTHING);
        }
        city.copyFrom(kept);
        marked = latest;
        return told(marked);
    }

    // ---- what the calls share

    private Hopes seen() {
        hopes.see();
        return hopes;
    }

    private boolean settled(int newStatus) {
        latestStatus = newStatus;
        return newStatus == DONE;
    }

    private int refused(int newStatus) {
        latestStatus = newStatus;
        return NONE;
    }

    private int told(int answer) {
        latestStatus = DONE;
        return answer;
    }

    private int toldIfAny(int answer) {
        return answer == NONE ? refused(NOTHING) : told(answer);
    }

    private boolean tell(long over, long under) {
        long common = commonDivisor(Math.abs(over), under);
        if (common > 0) {
            fractionTop = over / common;
            fractionBottom = under / common;
        }
        return settled(DONE);
    }

    private boolean tellFault(boolean readWell) {
        latestFault = readWell ? 0 : tape.fault;
        latestFaultPlace = readWell ? NONE : tape.faultPlace;
        tape.length = 0;
        return readWell;
    }

    private boolean areThere(int person, int deed) {
        return city.hasPerson(person) && city.hasDeed(deed);
    }

    private int voteStatus(int person, int deed) {
        if (!areThere(person, deed)) {
            return NO_SUCH;
        }
        return city.isOwn(person, deed) ? CANNOT : DONE;
    }

    private int meanStatus(int person, int deed) {
        int refusal = voteStatus(person, deed);
        if (refusal != DONE) {
            return refusal;
        }
        return city.isRuined(person) ? CANNOT : DONE;
    }

    private int gameStatus(int person, int other, int turns, int leastTurns) {
        if (!city.hasPerson(person) || !city.hasPerson(other)) {
            return NO_SUCH;
        }
        return person == other || turns < leastTurns || turns > MOST_TURNS ? BAD_NUMBER : DONE;
    }

    private int pastStatus(int person, int much) {
        if (!city.hasPerson(person)) {
            return NO_SUCH;
        }
        return much < -MOST_PAY || much > MOST_PAY ? BAD_NUMBER : DONE;
    }

    // Euclid's steps on two longs are fewer than a hundred.
    private static long commonDivisor(long a, long b) {
        long greater = a;
        long less = b;
        for (int step = 0; step < 200 && less != 0; step++) {
            long rest = greater % less;
            greater = less;
            less = rest;
        }
        return greater;
    }

    // Every row is reached through these, so that no index can be beside it.

    private static int at(int[] row, int i) {
        return i >= 0 && i < row.length ? row[i] : 0;
    }

    private static long at(long[] row, int i) {
        return i >= 0 && i < row.length ? row[i] : 0;
    }

    private static void put(int[] row, int i, int v) {
        if (i >= 0 && i < row.length) {
            row[i] = v;
        }
    }

    private static void put(long[] row, int i, long v) {
        if (i >= 0 && i < row.length) {
            row[i] = v;
        }
    }

    private static void copy(int[] from, int[] to) {
        System.arraycopy(from, 0, to, 0, Math.min(from.length, to.length));
    }

    private static void copy(long[] from, long[] to) {
        System.arraycopy(from, 0, to, 0, Math.min(from.length, to.length));
    }

    private static boolean isIn(int set, int i) {
        return i >= 0 && i < 31 && (set >> i & 1) == 1;
    }

    private static int limited(int v, int most) {
        return Math.max(0, Math.min(most, v));
    }

    /** Four rows of numbers, all in one row of cells. */
    private static final class Trays {
        static final int TRAYS = 4;
        static final int SORTS = 4;
        static final int MOST_CELLS = 60;

        final long[] cells = new long[TRAYS * MOST_CELLS];
        final int[] sorts = new int[TRAYS];
        final int[] sizes = new int[TRAYS];

        Trays() {
            Arrays.fill(sizes, NONE);
        }

        int make(int tray, int sort, int many) {
            if (!isTray(tray) || sort < 0 || sort >= SORTS) {
                return NO_TRAY;
            }
            if (many > MOST_CELLS) {
                return BAD_NUMBER;
            }
            if (many < 0) {
                return BELOW_ZERO;
            }
            put(sorts, tray, sort);
            put(sizes, tray, many);
            for (int i = 0; i < many; i++) {
                put(cells, tray * MOST_CELLS + i, 0L);
            }
            return DONE;
        }

        int trayStatus(int tray) {
            if (!isTray(tray)) {
                return NO_TRAY;
            }
            return at(sizes, tray) == NONE ? MISSING : DONE;
        }

        int placeStatus(int tray, int place) {
            int refusal = trayStatus(tray);
            if (refusal != DONE) {
                return refusal;
            }
            return place < 0 || place >= at(sizes, tray) ? NO_PLACE : DONE;
        }

        int roomStatus(int tray, int many) {
            int refusal = trayStatus(tray);
            if (refusal != DONE) {
                return refusal;
            }
            return at(sizes, tray) < many ? NO_PLACE : DONE;
        }

        int pourStatus(int tray, int i, int to, int j, int many) {
            if (!isTray(tray) || !isTray(to)) {
                return NO_TRAY;
            }
            if (at(sizes, tray) == NONE || at(sizes, to) == NONE) {
                return MISSING;
            }
            if (at(sorts, tray) != at(sorts, to)) {
                return UNLIKE;
            }
            if (many < 0) {
                return BELOW_ZERO;
            }
            return hasRun(tray, i, many) && hasRun(to, j, many) ? DONE : NO_PLACE;
        }

        void set(int tray, int place, long v) {
            put(cells, tray * MOST_CELLS + place, cut(v, at(sorts, tray)));
        }

        long get(int tray, int place) {
            return at(cells, tray * MOST_CELLS + place);
        }

        void move(int tray, int i, int to, int j, int many) {
            if (hasRun(tray, i, many) && hasRun(to, j, many)) {
                System.arraycopy(cells, tray * MOST_CELLS + i, cells, to * MOST_CELLS + j, many);
            }
        }

        private boolean hasRun(int tray, int place, int many) {
            int size = at(sizes, tray);
            return isTray(tray) && many >= 0 && place >= 0 && place <= size && many <= size - place;
        }

        private static boolean isTray(int tray) {
            return tray >= 0 && tray < TRAYS;
        }

        private static long cut(long v, int sort) {
            switch (sort) {
                case 0:
                    return (byte) v;
                case 1:
                    return (short) v;
                case 2:
                    return (int) v;
                default:
                    return v;
            }
        }
    }

    /** The fed bytes, and the tokens of the text that was split off them latest. */
    private static final class Tape {
        static final int MOST_BYTES = 900;
        static final int FEED_BYTES = 20;
        static final int MOST_NAME = 8;
        static final int MOST_DIGITS = 4;

        static final int AT_END = 0;
        static final int NO_TOKEN = 1;
        static final int KEYWORD = 2;
        static final int NAME = 3;
        static final int LONG_WORD = 4;
        static final int NUMBER = 5;
        static final int SIGN = 6;

        static final int FAULT_TOKEN = 1;
        static final int FAULT_STAND = 2;
        static final int FAULT_NAME = 3;
        static final int FAULT_NUMBER = 4;
        static final int FAULT_AGAIN = 5;
        static final int FAULT_MANY = 6;
        static final int FAULT_DEEP = 7;

        final byte[] bytes = new byte[MOST_BYTES];
        int length;
        // A text of n bytes has n tokens at most, and its end is one more.
        final int[] kinds = new int[MOST_BYTES + 1];
        final int[] places = new int[MOST_BYTES + 1];
        final long[] values = new long[MOST_BYTES + 1];
        int tokens;
        int now;
        // The token at hand, and what the one ahead of it was.
        int kind;
        int place;
        long value;
        long taken;
        int fault;
        int faultPlace;

        boolean hasRoom() {
            return length + FEED_BYTES <= MOST_BYTES;
        }

        void add(int four) {
            for (int shift = 24; shift >= 0; shift -= 8) {
                if (length >= 0 && length < bytes.length) {
                    bytes[length] = (byte) (four >> shift);
                    length++;
                }
            }
        }

        private int byteAt(int i) {
            return i >= 0 && i < bytes.length ? bytes[i] & 255 : 0;
        }

        void split(int n) {
            tokens = 0;
            int i = 0;
            for (int turn = 0; turn <= n && i < n; turn++) {
                int c = byteAt(i);
                int end = i + 1;
                if (isLetter(c)) {
                    end = runEnd(i, n, true);
                    addWord(i, end);
                } else if (isDigit(c)) {
                    end = runEnd(i, n, false);
                    addNumber(i, end);
                } else if (c == ';' || c == '<' || c == '>' || c == '=') {
                    addToken(SIGN, i, c);
                } else if (c != 10 && c != 32) {
                    addToken(NO_TOKEN, i, 0);
                }
                i = end;
            }
            addToken(AT_END, n, 0);
            now = -1;
            pass();
        }

        private void addToken(int kind, int place, long value) {
            put(kinds, tokens, kind);
            put(places, tokens, place);
            put(values, tokens, value);
            tokens++;
        }

        private void addWord(int from, int to) {
            int keyword = keywordOf(from, to);
            if (keyword != NONE) {
                addToken(KEYWORD, from, keyword);
            } else if (to - from > MOST_NAME) {
                addToken(LONG_WORD, from, 0);
            } else {
                addToken(NAME, from, nameOf(from, to));
            }
        }

        private void addNumber(int from, int to) {
            if (to - from > MOST_DIGITS) {
                addToken(NO_TOKEN, from, 0);
                return;
            }
            int number = 0;
            for (int i = from; i < to; i++) {
                number = number * 10 + byteAt(i) - '0';
            }
            addToken(NUMBER, from, number);
        }

        private int runEnd(int from, int n, boolean ofLetters) {
            int end = from;
            while (end < n && (ofLetters ? isLetter(byteAt(end)) : isDigit(byteAt(end)))) {
                end++;
            }
            return end;
        }

        private int keywordOf(int from, int to) {
            int keyword = 0;
            int i = from;
            boolean same = true;
            for (int k = 0; k < KEYWORDS.length(); k++) {
                int c = KEYWORDS.charAt(k);
                if (c != ' ') {
                    same = same && i < to && byteAt(i) == c;
                    i++;
                } else if (same && i == to) {
                    return keyword;
                } else {
                    keyword++;
                    i = from;
                    same = true;
                }
            }
            return NONE;
        }

        // Eight letters of five bits each fit a long, and no name is 0 so.
        private long nameOf(int from, int to) {
            long name = 0;
            for (int i = from; i < to; i++) {
                name = name * 32 + byteAt(i) - 'a' + 1;
            }
            return name;
        }

        private static boolean isLetter(int c) {
            return c >= 'a' && c <= 'z';
        }

        private static boolean isDigit(int c) {
            return c >= '0' && c <= '9';
        }

        boolean isWord(int keyword) {
            return kind == KEYWORD && value == keyword;
        }

        int wordNow() {
            return kind == KEYWORD ? (int) value : NONE;
        }

        // What is no token is told as that, whatever was looked for there.
        boolean blame(int faultKind) {
            fault = kind == NO_TOKEN ? FAULT_TOKEN : faultKind;
            faultPlace = place;
            return false;
        }

        void pass() {
            taken = value;
            now++;
            kind = at(kinds, now);
            place = at(places, now);
            value = at(values, now);
        }

        boolean takeWord(int keyword) {
            if (!isWord(keyword)) {
                return blame(FAULT_STAND);
            }
            pass();
            return true;
        }

        boolean takeSemicolon() {
            if (kind != SIGN || value != ';') {
                return blame(FAULT_STAND);
            }
            pass();
            return true;
        }

        boolean takeNumber(int least, int most) {
            if (kind != NUMBER) {
                return blame(FAULT_STAND);
            }
            if (value < least || value > most) {
                return blame(FAULT_NUMBER);
            }
            pass();
            return true;
        }

        int number() {
            return (int) taken;
        }
    }

    /** People, deeds, rules and years, with all that became of them. */
    private static final class City {
        static final int FACTS = 11;
        static final int PERSON_FACTS = 6;
        static final int DEED_FACTS = 6;
        static final int HEARD_FACTS = 4;
        static final int MOST_COINS = 99999;
        static final int FIRST_COINS = 100;
        static final long NAMELESS = 0;

        static final int IS_OPEN = 0;
        static final int IS_WON = 1;
        static final int IS_CLOSED = 2;

        static final int LOST = 0;
        static final int WON = 1;
        static final int OWED = 2;

        final int[] rules = new int[RULES];
        final long[] personNames = new long[MOST_PEOPLE];
        final int[] coins = new int[MOST_PEOPLE];
        final int[] skills = new int[MOST_PEOPLE];
        final int[] wonCounts = new int[MOST_PEOPLE];
        final int[] owedCounts = new int[MOST_PEOPLE];
        final int[] dropped = new int[MOST_PEOPLE];
        final long[] deedNames = new long[MOST_DEEDS];
        final int[] owners = new int[MOST_DEEDS];
        final int[] fines = new int[MOST_DEEDS];
        final int[] odds = new int[MOST_DEEDS];
        final int[] states = new int[MOST_DEEDS];
        final int[] accusers = new int[MOST_DEEDS];
        final int[] votesFor = new int[MOST_DEEDS];
        final Years years = new Years();
        int people;
        int deeds;
        int treasury;
        int heard;

        City() {
            clear();
        }

        void clear() {
            copy(FIRST_RULES, rules);
            people = 0;
            deeds = 0;
            treasury = 0;
            heard = 0;
            years.clear();
        }

        void copyFrom(City from) {
            copy(from.rules, rules);
            copy(from.personNames, personNames);
            copy(from.coins, coins);
            copy(from.skills, skills);
            copy(from.wonCounts, wonCounts);
            copy(from.owedCounts, owedCounts);
            copy(from.dropped, dropped);
            copy(from.deedNames, deedNames);
            copy(from.owners, owners);
            copy(from.fines, fines);
            copy(from.odds, odds);
            copy(from.states, states);
            copy(from.accusers, accusers);
            copy(from.votesFor, votesFor);
            years.copyFrom(from.years);
            people = from.people;
            deeds = from.deeds;
            treasury = from.treasury;
            heard = from.heard;
        }

        int addPerson(long name) {
            int p = people;
            people++;
            put(personNames, p, name);
            put(coins, p, FIRST_COINS);
            put(skills, p, 0);
            put(wonCounts, p, 0);
            put(owedCounts, p, 0);
            put(dropped, p, 0);
            return p;
        }

        int addDeed(long name, int owner, int fine, int odds16) {
            int d = deeds;
            deeds++;
            put(deedNames, d, name);
            put(owners, d, owner);
            put(fines, d, fine);
            put(odds, d, odds16);
            put(states, d, IS_OPEN);
            return d;
        }

        int personBy(long name) {
            for (int p = 0; p < people; p++) {
                if (at(personNames, p) == name) {
                    return p;
                }
            }
            return NONE;
        }

        int deedBy(long name) {
            for (int d = 0; d < deeds; d++) {
                if (at(deedNames, d) == name) {
                    return d;
                }
            }
            return NONE;
        }

        int ruleOf(int what) {
            return at(rules, what);
        }

        boolean hasPerson(int person) {
            return person >= 0 && person < people;
        }

        boolean hasDeed(int deed) {
            return deed >= 0 && deed < deeds;
        }

        boolean isSet(int ofPeople) {
            return ofPeople >= 0 && ofPeople < 1 << people;
        }

        boolean isRuined(int person) {
            return at(coins, person) < 0;
        }

        boolean isOpen(int deed) {
            return at(states, deed) == IS_OPEN;
        }

        boolean isOwn(int person, int deed) {
            return at(owners, deed) == person;
        }

        boolean mayCharge(int person, int deed) {
            return isOpen(deed) && !isOwn(person, deed) && !isIn(at(dropped, person), deed) && !isRuined(person);
        }

        boolean mayDrop(int person, int deed, int much) {
            return mayCharge(person, deed) && at(coins, at(owners, deed)) >= much;
        }

        int chanceOf(int person, int deed) {
            return limited(at(odds, deed) + at(skills, person) - at(skills, at(owners, deed)), 16);
        }

        void give(int person, int much) {
            put(coins, person, Math.max(-MOST_COINS, Math.min(MOST_COINS, at(coins, person) + much)));
        }

        private void fillTreasury(int much) {
            treasury = Math.min(MOST_COINS, treasury + much);
        }

        int decide(int person, int deed, int votes) {
            heard++;
            put(accusers, deed, person);
            put(votesFor, deed, votes);
            if (votes * 2 > ruleOf(JURORS)) {
                put(states, deed, IS_WON);
                put(wonCounts, person, at(wonCounts, person) + 1);
                int fine = at(fines, deed);
                int part = partOf(fine, ruleOf(SHARE));
                give(at(owners, deed), -fine);
                give(person, part);
                fillTreasury(fine - part);
                return WON;
            }
            put(states, deed, IS_CLOSED);
            if (votes >= ruleOf(FIFTH)) {
                return LOST;
            }
            put(owedCounts, person, at(owedCounts, person) + 1);
            give(person, -ruleOf(PENALTY));
            fillTreasury(ruleOf(PENALTY));
            return OWED;
        }

        void settle(int person, int deed, int much) {
            give(at(owners, deed), -much);
            give(person, much);
            put(dropped, person, at(dropped, person) | 1 << deed);
        }

        void openAgain(int deed) {
            put(states, deed, IS_OPEN);
            for (int p = 0; p < people; p++) {
                put(dropped, p, at(dropped, p) & ~(1 << deed));
            }
        }

        static int partOf(int fine, int share) {
            return fine * share / 16;
        }

        int openDeeds() {
            return deedsThat(IS_OPEN);
        }

        private int deedsThat(int state) {
            int set = 0;
            for (int d = 0; d < deeds; d++) {
                set |= at(states, d) == state ? 1 << d : 0;
            }
            return set;
        }

        private int deedsOf(int person) {
            int set = 0;
            for (int d = 0; d < deeds; d++) {
                set |= isOwn(person, d) ? 1 << d : 0;
            }
            return set;
        }

        private int ruinedPeople() {
            int set = 0;
            for (int p = 0; p < people; p++) {
                set |= isRuined(p) ? 1 << p : 0;
            }
            return set;
        }

        int fact(int what) {
            switch (what) {
                case 0:
                    return people;
                case 1:
                    return deeds;
                case 6:
                    return treasury;
                case 7:
                    return deedsThat(IS_OPEN);
                case 8:
                    return deedsThat(IS_WON);
                case 9:
                    return ruinedPeople();
                case 10:
                    return heard;
                default:
                    return ruleOf(what - 2);
            }
        }

        int personFact(int person, int what) {
            switch (what) {
                case 0:
                    return at(coins, person);
                case 1:
                    return at(skills, person);
                case 2:
                    return at(wonCounts, person);
                case 3:
                    return at(owedCounts, person);
                case 4:
                    return deedsOf(person);
                default:
                    return at(dropped, person);
            }
        }

        int deedFact(int deed, int what) {
            switch (what) {
                case 0:
                    return at(owners, deed);
                case 1:
                    return at(fines, deed);
                case 2:
                    return at(odds, deed);
                case 3:
                    return at(states, deed);
                case 4:
                    return at(accusers, deed);
                default:
                    return at(votesFor, deed);
            }
        }
    }

    /** Steps and the ends of blocks, as they stand, each known by the number of its word. */
    private static final class Years {
        static final int MOST_STEPS = 30;
        static final int MOST_LINES = 2 * MOST_STEPS;

        final int[] words = new int[MOST_LINES];
        final int[] firsts = new int[MOST_LINES];
        final int[] seconds = new int[MOST_LINES];
        final int[] numbers = new int[MOST_LINES];
        // Of a when or a loop: where its end stands, and the other way round.
        final int[] partners = new int[MOST_LINES];
        final int[] roundsLeft = new int[MOST_LINES];
        int lines;
        int steps;
        boolean there;

        void clear() {
            lines = 0;
            steps = 0;
            there = false;
        }

        void copyFrom(Years from) {
            copy(from.words, words);
            copy(from.firsts, firsts);
            copy(from.seconds, seconds);
            copy(from.numbers, numbers);
            copy(from.partners, partners);
            lines = from.lines;
            steps = from.steps;
            there = from.there;
        }

        int add(int word, int first, int second, int number) {
            int line = lines;
            lines++;
            put(words, line, word);
            put(firsts, line, first);
            put(seconds, line, second);
            put(numbers, line, number);
            if (word != END) {
                steps++;
            }
            return line;
        }

        void join(int beginning, int end) {
            put(partners, beginning, end);
            put(partners, end, beginning);
        }

        void beginLoop(int line) {
            put(roundsLeft, line, at(numbers, line));
        }

        int behindEnd(int line) {
            int beginning = at(partners, line);
            int left = at(roundsLeft, beginning) - 1;
            if (at(words, beginning) != LOOP || left <= 0) {
                return line + 1;
            }
            put(roundsLeft, beginning, left);
            return beginning + 1;
        }
    }

    /** Reads the tape's tokens as a city into a draft. */
    private static final class CityReader {
        final Tape tape;
        final City draft;
        int rulesTold;

        CityReader(Tape tape, City draft) {
            this.tape = tape;
            this.draft = draft;
        }

        boolean readText() {
            draft.clear();
            rulesTold = 0;
            for (int part = 0; part <= Tape.MOST_BYTES && tape.kind != Tape.AT_END; part++) {
                int word = tape.wordNow();
                boolean read;
                if (word >= 0 && word < RULES) {
                    read = readRule(word);
                } else if (word == PERSON) {
                    read = readPerson();
                } else {
                    read = word == DEED ? readDeed() : tape.blame(Tape.FAULT_STAND);
                }
                if (!read) {
                    return false;
                }
            }
            return true;
        }

        private boolean readRule(int word) {
            if (isIn(rulesTold, word)) {
                return tape.blame(Tape.FAULT_AGAIN);
            }
            tape.pass();
            if (!tape.takeNumber(at(LEAST_RULES, word), at(MOST_RULES, word))) {
                return false;
            }
            rulesTold |= 1 << word;
            put(draft.rules, word, tape.number());
            return tape.takeSemicolon();
        }

        private boolean readPerson() {
            if (draft.people >= MOST_PEOPLE) {
                return tape.blame(Tape.FAULT_MANY);
            }
            tape.pass();
            if (!takeNewName()) {
                return false;
            }
            int person = draft.addPerson(tape.taken);
            if (tape.isWord(COINS)) {
                if (!takeWordAndNumber(COINS, 0, MOST_PAY)) {
                    return false;
                }
                put(draft.coins, person, tape.number());
            }
            if (tape.isWord(SKILL)) {
                if (!takeWordAndNumber(SKILL, 0, MOST_SKILL)) {
                    return false;
                }
                put(draft.skills, person, tape.number());
            }
            return tape.takeSemicolon();
        }

        private boolean readDeed() {
            if (draft.deeds >= MOST_DEEDS) {
                return tape.blame(Tape.FAULT_MANY);
            }
            tape.pass();
            if (!takeNewName()) {
                return false;
            }
            long name = tape.taken;
            if (!tape.takeWord(OF)) {
                return false;
            }
            if (tape.kind != Tape.NAME) {
                return tape.blame(Tape.FAULT_STAND);
            }
            int owner = draft.personBy(tape.value);
            if (owner == NONE) {
                return tape.blame(Tape.FAULT_NAME);
            }
            tape.pass();
            if (!takeWordAndNumber(FINE, 1, MOST_FINE)) {
                return false;
            }
            int fine = tape.number();
            if (!takeWordAndNumber(ODDS, 0, MOST_ODDS)) {
                return false;
            }
            draft.addDeed(name, owner, fine, tape.number());
            return tape.takeSemicolon();
        }

        private boolean takeWordAndNumber(int keyword, int least, int most) {
            return tape.takeWord(keyword) && tape.takeNumber(least, most);
        }

        private boolean takeNewName() {
            if (tape.kind != Tape.NAME) {
                return tape.blame(Tape.FAULT_STAND);
            }
            if (draft.personBy(tape.value) != NONE || draft.deedBy(tape.value) != NONE) {
                return tape.blame(Tape.FAULT_NAME);
            }
            tape.pass();
            return true;
        }
    }

    /** Reads the tape's tokens as years of a city into a draft. */
    private static final class YearsReader {
        static final int MOST_DEPTH = 3;
        static final int MOST_ROUNDS = 99;
        static final int MOST_EARNED = 999;

        final Tape tape;
        final City city;
        final Years draft;
        final int[] opened = new int[MOST_DEPTH];
        int depth;
        int named;

        YearsReader(Tape tape, City city, Years draft) {
            this.tape = tape;
            this.city = city;
            this.draft = draft;
        }

        boolean readText() {
            draft.clear();
            draft.there = true;
            depth = 0;
            for (int step = 0; step <= Tape.MOST_BYTES && tape.kind != Tape.AT_END; step++) {
                boolean read = tape.isWord(END) ? readEnd() : readStep();
                if (!read) {
                    return false;
                }
            }
            return depth == 0 || tape.blame(Tape.FAULT_STAND);
        }

        private boolean readEnd() {
            if (depth <= 0) {
                return tape.blame(Tape.FAULT_STAND);
            }
            depth--;
            draft.join(at(opened, depth), draft.add(END, NONE, NONE, 0));
            tape.pass();
            return tape.takeSemicolon();
        }

        private boolean readStep() {
            int word = tape.wordNow();
            if (!beginsStep(word)) {
                return tape.blame(Tape.FAULT_STAND);
            }
            if (draft.steps >= Years.MOST_STEPS) {
                return tape.blame(Tape.FAULT_MANY);
            }
            if ((word == WHEN || word == LOOP) && depth >= MOST_DEPTH) {
                return tape.blame(Tape.FAULT_DEEP);
            }
            tape.pass();
            boolean read = true;
            switch (word) {
                case CHARGE:
                    read = readCharge();
                    break;
                case DROP:
                    read = readDrop();
                    break;
                case EARN:
                    read = readEarn();
                    break;
                case WHEN:
                    read = readTest();
                    break;
                case LOOP:
                    read = readLoop();
                    break;
                default:
                    draft.add(word, NONE, NONE, 0);
                    break;
            }
            return read && tape.takeSemicolon();
        }

        private static boolean beginsStep(int word) {
            return word == CHARGE || word == DROP || word == EARN || word == ANY || word == WHEN || word == LOOP
                    || word == STOP;
        }

        private boolean readCharge() {
            if (!takeNamed(personNow())) {
                return false;
            }
            int person = named;
            if (!takeNamed(deedNow())) {
                return false;
            }
            draft.add(CHARGE, person, named, 0);
            return true;
        }

        private boolean readDrop() {
            if (!takeNamed(personNow())) {
                return false;
            }
            int person = named;
            if (!takeNamed(deedNow()) || !tape.takeWord(FOR) || !tape.takeNumber(0, MOST_PAY)) {
                return false;
            }
            draft.add(DROP, person, named, tape.number());
            return true;
        }

        private boolean readEarn() {
            if (!takeNamed(personNow()) || !tape.takeNumber(1, MOST_EARNED)) {
                return false;
            }
            draft.add(EARN, named, NONE, tape.number());
            return true;
        }

        private boolean readLoop() {
            if (!tape.takeNumber(1, MOST_ROUNDS)) {
                return false;
            }
            open(draft.add(LOOP, NONE, NONE, tape.number()));
            return true;
        }

        // A when's second number is the word of its test, or the sign by which coins are compared.
        private boolean readTest() {
            int word = tape.wordNow();
            if (word != OPEN && word != RUINED && word != COINS) {
                return tape.blame(Tape.FAULT_STAND);
            }
            tape.pass();
            if (!takeNamed(word == OPEN ? deedNow() : personNow())) {
                return false;
            }
            if (word != COINS) {
                open(draft.add(WHEN, named, word, 0));
                return true;
            }
            if (tape.kind != Tape.SIGN || tape.value == ';') {
                return tape.blame(Tape.FAULT_STAND);
            }
            tape.pass();
            int sign = tape.number();
            if (!tape.takeNumber(0, MOST_PAY)) {
                return false;
            }
            open(draft.add(WHEN, named, sign, tape.number()));
            return true;
        }

        private void open(int line) {
            put(opened, depth, line);
            depth++;
        }

        private int personNow() {
            return city.personBy(tape.value);
        }

        private int deedNow() {
            return city.deedBy(tape.value);
        }

        private boolean takeNamed(int found) {
            if (tape.kind != Tape.NAME) {
                return tape.blame(Tape.FAULT_STAND);
            }
            if (found == NONE) {
                return tape.blame(Tape.FAULT_NAME);
            }
            named = found;
            tape.pass();
            return true;
        }
    }

    /** What votes are likely and what charges are worth, all by the whole of 16 to the jurors. */
    private static final class Hopes {
        static final int CHANCES = 17;

        final City city;
        // Of one chance: in how many ways of the whole just so many vote.
        final long[] ways = new long[MOST_JURORS + 1];
        final long[] winsBy = new long[CHANCES];
        final long[] debtsBy = new long[CHANCES];
        // Of a person and a deed, at person * MOST_DEEDS + deed.
        final long[] wins = new long[MOST_PEOPLE * MOST_DEEDS];
        final long[] debts = new long[MOST_PEOPLE * MOST_DEEDS];
        final long[] gains = new long[MOST_PEOPLE * MOST_DEEDS];
        final long[] losses = new long[MOST_PEOPLE * MOST_DEEDS];
        // Of a person: the set of deeds that he can charge.
        final int[] within = new int[MOST_PEOPLE];
        final long[] sorted = new long[MOST_DEEDS];

        Hopes(City city) {
            this.city = city;
        }

        long whole() {
            return 1L << 4 * city.ruleOf(JURORS);
        }

        // Juror by juror: one vote more by the chance, as many as before by the rest.
        void weigh(int chance) {
            Arrays.fill(ways, 0L);
            put(ways, 0, 1L);
            for (int juror = 1; juror <= city.ruleOf(JURORS); juror++) {
                for (int k = juror; k >= 0; k--) {
                    put(ways, k, at(ways, k) * (16 - chance) + at(ways, k - 1) * chance);
                }
            }
        }

        long waysToWin() {
            int jurors = city.ruleOf(JURORS);
            long sum = 0;
            for (int k = 0; k <= jurors; k++) {
                sum += 2 * k > jurors ? at(ways, k) : 0;
            }
            return sum;
        }

        long waysToOwe() {
            int jurors = city.ruleOf(JURORS);
            long sum = 0;
            for (int k = 0; 2 * k <= jurors && k < city.ruleOf(FIFTH); k++) {
                sum += at(ways, k);
            }
            return sum;
        }

        // Whatever is asked below here is told as the city is seen latest.
        void see() {
            for (int chance = 0; chance < CHANCES; chance++) {
                weigh(chance);
                put(winsBy, chance, waysToWin());
                put(debtsBy, chance, waysToOwe());
            }
            for (int p = 0; p < city.people; p++) {
                put(within, p, 0);
                for (int d = 0; d < city.deeds; d++) {
                    seeCharge(p, d);
                }
            }
        }

        private void seeCharge(int person, int deed) {
            int cell = cellOf(person, deed);
            int chance = city.chanceOf(person, deed);
            long win = at(winsBy, chance);
            long debt = at(debtsBy, chance);
            int fine = at(city.fines, deed);
            put(wins, cell, win);
            put(debts, cell, debt);
            put(gains, cell, win * City.partOf(fine, city.ruleOf(SHARE)) - debt * city.ruleOf(PENALTY));
            put(losses, cell, win * fine);
            if (city.mayCharge(person, deed)) {
                put(within, person, at(within, person) | 1 << deed);
            }
        }

        private static int cellOf(int person, int deed) {
            return person * MOST_DEEDS + deed;
        }

        private boolean isWithin(int person, int deed) {
            return isIn(at(within, person), deed);
        }

        long gainOf(int person, int deed) {
            return at(gains, cellOf(person, deed));
        }

        long lossOf(int person, int deed) {
            return at(losses, cellOf(person, deed));
        }

        // 0 where there is no gain above 0 to be had.
        private long gainToHave(int person, int deed) {
            return isWithin(person, deed) ? Math.max(0L, gainOf(person, deed)) : 0;
        }

        int bestDeed(int person) {
            int best = NONE;
            long most = 0;
            for (int d = 0; d < city.deeds; d++) {
                long gain = gainToHave(person, d);
                if (gain > most) {
                    best = d;
                    most = gain;
                }
            }
            return best;
        }

        int bestAccuser(int deed) {
            int best = NONE;
            long most = 0;
            for (int p = 0; p < city.people; p++) {
                long gain = gainToHave(p, deed);
                if (gain > most) {
                    best = p;
                    most = gain;
                }
            }
            return best;
        }

        long bestSum(int person, int n) {
            Arrays.fill(sorted, 0L);
            for (int d = 0; d < city.deeds; d++) {
                sortIn(gainToHave(person, d), d);
            }
            long sum = 0;
            for (int i = 0; i < n; i++) {
                sum += at(sorted, i);
            }
            return sum;
        }

        private void sortIn(long gain, int behind) {
            int place = behind;
            for (; place > 0 && at(sorted, place - 1) < gain; place--) {
                put(sorted, place, at(sorted, place - 1));
            }
            put(sorted, place, gain);
        }

        // The greatest loss by a glad accuser; 0 without one, as a glad one's is above 0.
        private long worstLoss(int deed) {
            long most = 0;
            for (int p = 0; p < city.people; p++) {
                if (isWithin(p, deed) && gainOf(p, deed) > 0) {
                    most = Math.max(most, lossOf(p, deed));
                }
            }
            return most;
        }

        int worstDeed(int person) {
            int worst = NONE;
            long most = 0;
            for (int d = 0; d < city.deeds; d++) {
                long loss = city.isOwn(person, d) ? worstLoss(d) : 0;
                if (loss > most) {
                    worst = d;
                    most = loss;
                }
            }
            return worst;
        }

        long dreadOf(int person) {
            long sum = 0;
            for (int d = 0; d < city.deeds; d++) {
                sum += city.isOwn(person, d) ? worstLoss(d) : 0;
            }
            return sum;
        }

        int mildestAccuser(int deed) {
            int mildest = NONE;
            long least = 0;
            for (int p = 0; p < city.people; p++) {
                if (isWithin(p, deed) && (mildest == NONE || lossOf(p, deed) < least)) {
                    mildest = p;
                    least = lossOf(p, deed);
                }
            }
            return mildest;
        }

        int fewestCoins(int person, int deed) {
            long gain = Math.max(0L, gainOf(person, deed));
            return (int) (gain + whole() - 1 >> 4 * city.ruleOf(JURORS));
        }

        int mostCoins(int person, int deed) {
            return (int) (lossOf(person, deed) >> 4 * city.ruleOf(JURORS));
        }

        private boolean isAnyGlad(int deed, int prize, int penalty) {
            for (int p = 0; p < city.people; p++) {
                int cell = cellOf(p, deed);
                if (isWithin(p, deed) && at(wins, cell) * prize > at(debts, cell) * penalty) {
                    return true;
                }
            }
            return false;
        }

        int leastGladShare(int deed) {
            int penalty = city.ruleOf(PENALTY);
            for (int share = 0; share <= MOST_SHARE; share++) {
                if (isAnyGlad(deed, City.partOf(at(city.fines, deed), share), penalty)) {
                    return share;
                }
            }
            return NONE;
        }

        int leastGladFine(int deed) {
            int penalty = city.ruleOf(PENALTY);
            for (int fine = 1; fine <= MOST_FINE; fine++) {
                if (isAnyGlad(deed, City.partOf(fine, city.ruleOf(SHARE)), penalty)) {
                    return fine;
                }
            }
            return NONE;
        }

        int mostGladPenalty(int deed) {
            int prize = City.partOf(at(city.fines, deed), city.ruleOf(SHARE));
            for (int penalty = MOST_PENALTY; penalty >= 0; penalty--) {
                if (isAnyGlad(deed, prize, penalty)) {
                    return penalty;
                }
            }
            return NONE;
        }

        int gladSet(int share, int penalty) {
            int set = 0;
            for (int d = 0; d < city.deeds; d++) {
                if (isAnyGlad(d, City.partOf(at(city.fines, d), share), penalty)) {
                    set |= 1 << d;
                }
            }
            return set;
        }
    }

    /** What two do who charge each other, and who stays in a club. */
    private static final class Games {
        static final int NOBODY = 0;
        static final int FIRST = 1;
        static final int SECOND = 2;

        final City city;
        final Hopes hopes;
        final int[] movers = new int[MOST_DEEDS];
        final long[] worths = new long[MOST_DEEDS];
        final long[] dreads = new long[MOST_PEOPLE];
        int turns;

        Games(City city, Hopes hopes) {
            this.city = city;
            this.hopes = hopes;
        }

        void setGame(int person, int other, int manyTurns) {
            turns = manyTurns;
            for (int d = 0; d < city.deeds; d++) {
                put(movers, d, NOBODY);
                if (city.isOwn(other, d) && city.mayCharge(person, d)) {
                    put(movers, d, FIRST);
                    put(worths, d, hopes.gainOf(person, d) + hopes.lossOf(person, d));
                }
                if (city.isOwn(person, d) && city.mayCharge(other, d)) {
                    put(movers, d, SECOND);
                    put(worths, d, -hopes.gainOf(other, d) - hopes.lossOf(other, d));
                }
            }
        }

        long outcome() {
            return play(this, 0, 0);
        }

        // The turns, three at most, keep the depth.
        private static long play(Games game, int turn, int charged) {
            if (turn >= game.turns || turn >= MOST_TURNS) {
                return 0;
            }
            boolean firsts = turn % 2 == 0;
            long best = play(game, turn + 1, charged);
            for (int d = 0; d < game.city.deeds; d++) {
                if (at(game.movers, d) == (firsts ? FIRST : SECOND) && !isIn(charged, d)) {
                    long much = at(game.worths, d) + play(game, turn + 1, charged | 1 << d);
                    best = firsts ? Math.max(best, much) : Math.min(best, much);
                }
            }
            return best;
        }

        int firstMove() {
            long best = outcome();
            for (int d = 0; d < city.deeds; d++) {
                if (at(movers, d) == FIRST && at(worths, d) + play(this, 1, 1 << d) == best) {
                    return d;
                }
            }
            return NONE;
        }

        void setClub() {
            for (int p = 0; p < city.people; p++) {
                put(dreads, p, hopes.dreadOf(p));
            }
        }

        long sumOfDreads(int people) {
            long sum = 0;
            for (int p = 0; p < city.people; p++) {
                sum += isIn(people, p) ? at(dreads, p) : 0;
            }
            return sum;
        }

        // In every round but the last somebody leaves.
        int stayers(int people) {
            int set = people;
            for (int round = 0; round <= MOST_PEOPLE; round++) {
                int leaving = leavers(set);
                if (leaving == 0) {
                    return set;
                }
                set &= ~leaving;
            }
            return set;
        }

        private int leavers(int set) {
            long sum = sumOfDreads(set);
            int many = Integer.bitCount(set);
            int leaving = 0;
            for (int p = 0; p < city.people; p++) {
                if (isIn(set, p) && at(dreads, p) * many < sum) {
                    leaving |= 1 << p;
                }
            }
            return leaving;
        }
    }

    /** By which charges somebody can have gained so much. */
    private static final class Past {
        final City city;
        final int[] others = new int[MOST_DEEDS];
        int many;
        int ways;
        int always;

        Past(City city) {
            this.city = city;
        }

        private void gather(int person) {
            many = 0;
            for (int d = 0; d < city.deeds; d++) {
                if (!city.isOwn(person, d)) {
                    put(others, many, d);
                    many++;
                }
            }
        }

        private int prize(int i) {
            return City.partOf(at(city.fines, at(others, i)), city.ruleOf(SHARE));
        }

        int most(int person) {
            gather(person);
            int sum = 0;
            for (int i = 0; i < many; i++) {
                sum += prize(i);
            }
            return sum;
        }

        int least(int person) {
            gather(person);
            return -many * city.ruleOf(PENALTY);
        }

        // By every set of what was won: how many ways the rest has to come down to so much.
        void look(int person, int much) {
            gather(person);
            ways = 0;
            always = (1 << MOST_DEEDS) - 1;
            for (int chosen = 0; chosen < 1 << many; chosen++) {
                int sum = 0;
                int won = 0;
                for (int i = 0; i < many; i++) {
                    if (isIn(chosen, i)) {
                        sum += prize(i);
                        won |= 1 << at(others, i);
                    }
                }
                int found = waysToPay(sum - much, many - Integer.bitCount(chosen));
                ways += found;
                always &= found > 0 ? won : always;
            }
        }

        private int waysToPay(int debt, int rest) {
            int penalty = city.ruleOf(PENALTY);
            if (penalty == 0) {
                return debt == 0 ? 1 << rest : 0;
            }
            if (debt < 0 || debt % penalty != 0) {
                return 0;
            }
            return choices(rest, debt / penalty);
        }

        private static int choices(int of, int many) {
            if (many > of) {
                return 0;
            }
            int product = 1;
            for (int k = 1; k <= many; k++) {
                product = product * (of - k + 1) / k;
            }
            return product;
        }
    }

    /** Years as they go by the draws of one seed. */
    private static final class Life {
        static final int FACTS = 5;
        static final int MISSED = 0;
        static final int HEARD = 1;
        static final int WINS = 2;
        static final int DEBTS = 3;
        static final int LEFT = 4;

        static final int MOST_STEPS = 300;
        // 300 loops of 99 empty rounds each stay far below.
        static final int MOST_MOVES = 1000000;

        final int[] facts = new int[FACTS];
        int steps;
        int s;

        void sow(int seed) {
            s = seed;
        }

        private int draw(int n) {
            s = (s * 2971 + 10739) & 65535;
            return n > 0 ? s / 8 % n : 0;
        }

        int jury(City city, int person, int deed) {
            int chance = city.chanceOf(person, deed);
            int votes = 0;
            for (int juror = 0; juror < city.ruleOf(JURORS); juror++) {
                if (draw(16) < chance) {
                    votes++;
                }
            }
            return votes;
        }

        void run(City city, int seed) {
            Arrays.fill(facts, 0);
            steps = 0;
            sow(seed);
            int line = 0;
            for (int move = 0; move < MOST_MOVES && line < city.years.lines; move++) {
                int word = at(city.years.words, line);
                if (word == END) {
                    line = city.years.behindEnd(line);
                    continue;
                }
                if (steps >= MOST_STEPS) {
                    put(facts, LEFT, 1);
                    return;
                }
                steps++;
                if (word == STOP) {
                    return;
                }
                line = doStep(city, word, line);
            }
        }

        private int doStep(City city, int word, int line) {
            int first = at(city.years.firsts, line);
            int second = at(city.years.seconds, line);
            int number = at(city.years.numbers, line);
            switch (word) {
                case CHARGE:
                    accuse(city, first, second);
                    break;
                case DROP:
                    if (city.mayDrop(first, second, number)) {
                        city.settle(first, second, number);
                    } else {
                        count(MISSED);
                    }
                    break;
                case EARN:
                    city.give(first, number);
                    break;
                case ANY:
                    if (city.people > 0 && city.deeds > 0) {
                        first = draw(city.people);
                        second = draw(city.deeds);
                        accuse(city, first, second);
                    } else {
                        count(MISSED);
                    }
                    break;
                case WHEN:
                    return holds(city, first, second, number) ? line + 1 : at(city.years.partners, line) + 1;
                default:
                    city.years.beginLoop(line);
                    break;
            }
            return line + 1;
        }

        private void count(int what) {
            put(facts, what, at(facts, what) + 1);
        }

        private void accuse(City city, int person, int deed) {
            if (!city.mayCharge(person, deed)) {
                count(MISSED);
                return;
            }
            int outcome = city.decide(person, deed, jury(city, person, deed));
            count(HEARD);
            if (outcome == City.WON) {
                count(WINS);
            } else if (outcome == City.OWED) {
                count(DEBTS);
            }
        }

        private static boolean holds(City city, int named, int test, int number) {
            switch (test) {
                case OPEN:
                    return city.isOpen(named);
                case RUINED:
                    return city.isRuined(named);
                case '<':
                    return at(city.coins, named) < number;
                case '>':
                    return at(city.coins, named) > number;
                default:
                    return at(city.coins, named) == number;
            }
        }
    }
}
