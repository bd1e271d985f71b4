/** What a number or two decide, for every number that there can be; each object has fewer than 512 calls. */
public final class TableTests {
    private static final int ANN = 0;
    private static final int BOB = 1;

    private TableTests() {
    }

    public static void main(String[] args) {
        chances();
        votes();
        shares();
        penalties();
        trades();
        hearings();
        anybody();
        numbersOfCities();
        numbersOfYears();
        rounds();
        traysOfBytes();
        places();
        sets();
        Check.end("TableTests");
    }

    private static HalfAccuser made(String city) {
        HalfAccuser x = new HalfAccuser();
        int deeds = Calls.city(x, city);
        if (deeds < 0) {
            Check.that("a city is refused: " + city, false);
        }
        return x;
    }

    private static void same(int promise, String what, long got, long due) {
        Check.promise(promise);
        Check.same(what, got, due);
    }

    private static long divisor(long a, long b) {
        return b == 0 ? Math.abs(a) : divisor(b, a % b);
    }

    private static void fraction(int promise, String what, HalfAccuser x, boolean told, long top, long bottom) {
        long common = divisor(top, bottom);
        same(promise, what + ": told", told ? 1 : 0, 1);
        same(promise, what + ": top", x.top(), top / common);
        same(promise, what + ": bottom", x.bottom(), bottom / common);
    }

    private static int cut(int v, int least, int most) {
        return Math.max(least, Math.min(most, v));
    }

    // ODDS, SKILL and SKILL
    private static void chances() {
        for (int odds = 0; odds <= 16; odds++) {
            for (int owners = 0; owners <= 16; owners++) {
                HalfAccuser x = made("person ann;person bob skill " + owners + ";deed lie of bob fine 1 odds " + odds + ";");
                for (int skill = 0; skill <= 16; skill++) {
                    x.train(ANN, skill);
                    same(26, "chance of " + odds + ", " + skill + ", " + owners, x.chance(ANN, 0),
                            cut(odds + skill - owners, 0, 16));
                }
            }
        }
    }

    private static long power(long a, int n) {
        return n == 0 ? 1 : a * power(a, n - 1);
    }

    private static long ways(int jurors, int k, int chance) {
        long choices = 1;
        for (int i = 1; i <= k; i++) {
            choices = choices * (jurors - i + 1) / i;
        }
        return choices * power(chance, k) * power(16 - chance, jurors - k);
    }

    // JURORS, CHANCE, FIFTH and votes
    private static void votes() {
        for (int jurors = 1; jurors <= 9; jurors++) {
            for (int chance = 0; chance <= 16; chance++) {
                HalfAccuser x = made("jurors " + jurors + ";penalty 7;share 16;person ann;person bob;deed lie of bob fine 11 odds "
                        + chance + ";");
                String by = " by " + chance + " of " + jurors;
                long whole = power(16, jurors);
                long won = 0;
                for (int k = 0; k <= jurors; k++) {
                    fraction(27, k + by, x, x.votes(ANN, 0, k), ways(jurors, k, chance), whole);
                    won += 2 * k > jurors ? ways(jurors, k, chance) : 0;
                }
                fraction(28, "wins" + by, x, x.wins(ANN, 0), won, whole);
                fraction(31, "loss" + by, x, x.loss(ANN, 0), 11 * won, whole);
                long owed = 0;
                for (int fifth = 0; fifth <= 9; fifth++) {
                    x.rule(1, fifth);
                    owed += fifth > 0 && 2 * (fifth - 1) <= jurors ? ways(jurors, fifth - 1, chance) : 0;
                    fraction(29, "owes" + by + ", " + fifth, x, x.owes(ANN, 0), owed, whole);
                    fraction(30, "gain" + by + ", " + fifth, x, x.gain(ANN, 0), 11 * won - 7 * owed, whole);
                    same(32, "best" + by + ", " + fifth, x.best(ANN), 11 * won > 7 * owed ? 0 : -1);
                }
                verdicts(jurors, chance);
            }
        }
    }

    // JURORS, votes; CHANCE stands for FIFTH
    private static void verdicts(int jurors, int fifth) {
        if (fifth > 9) {
            return;
        }
        HalfAccuser x = made("jurors " + jurors + ";fifth " + fifth + ";penalty 7;share 5;person ann;person bob coins 9999;"
                + "deed lie of bob fine 11 odds 3;");
        int coins = 100;
        int treasury = 0;
        for (int k = 0; k <= jurors; k++) {
            boolean won = 2 * k > jurors;
            boolean owed = !won && k < fifth;
            coins += won ? 3 : owed ? -7 : 0;
            treasury += won ? 8 : owed ? 7 : 0;
            String of = k + " of " + jurors + ", " + fifth;
            same(17, of, x.charge(ANN, 0, k), coins);
            same(17, of + ": treasury", x.many(6), treasury);
            same(15, of + ": state", x.deed(0, 3), won ? 1 : 2);
            same(15, of + ": votes", x.deed(0, 5), k);
            same(13, of + ": heard", x.many(10), k + 1);
            same(21, of + ": open", x.reopen(0) ? 1 : 0, 1);
        }
    }

    // SHARE and FINE
    private static void shares() {
        for (int share = 0; share <= 16; share++) {
            for (int fine = 1; fine <= 999; fine += 9) {
                HalfAccuser x = made("jurors 1;penalty 3;share " + share + ";person ann;person bob coins 9999;");
                int parts = 0;
                int paid = 0;
                for (int d = 0; d < 9; d++) {
                    int part = (fine + d) * share / 16;
                    String of = share + " of " + (fine + d);
                    same(20, of, x.commit(BOB, fine + d, 8), d);
                    fraction(30, of, x, x.gain(ANN, d), part - 3, 2);
                    fraction(31, of, x, x.loss(ANN, d), fine + d, 2);
                    same(50, of + ": most", x.bound(ANN, 0), parts + part);
                    same(17, of + ": coins", x.charge(ANN, d, 1), 100 + parts + part);
                    same(13, of + ": treasury", x.many(6), sum(fine, d) - parts - part);
                    same(15, of + ": fine", x.deed(d, 1), fine + d);
                    parts += part;
                    paid |= part > 0 ? 1 << d : 0;
                }
                same(50, "least", x.bound(ANN, 1), -27);
                same(48, "gained least", x.gained(ANN, -27), 1);
                // By what has a part all was WON; where nothing was to be had he may have charged or not.
                int free = Integer.bitCount(511 & ~paid);
                same(48, "gained most of " + share + ", " + fine, x.gained(ANN, parts), 1 << free);
                same(49, "sure of " + share + ", " + fine, x.sure(ANN, parts), paid);
            }
        }
    }

    private static int sum(int first, int more) {
        return first * (more + 1) + more * (more + 1) / 2;
    }

    // PENALTY: who would be GLAD, by which SHARE, FINE, PENALTY
    private static void penalties() {
        for (int penalty = 0; penalty <= 999; penalty++) {
            HalfAccuser x = made("jurors 1;penalty " + penalty + ";person ann;person bob;deed lie of bob fine "
                    + Math.max(1, penalty) + " odds 8;");
            int fine = Math.max(1, penalty);
            int share = penalty == 0 ? 16 : -1;
            same(13, "penalty", x.many(4), penalty);
            same(40, "share by " + penalty, x.leastShare(0), share);
            same(42, "penalty by " + penalty, x.mostPenalty(0), fine / 2 - 1);
            x.rule(3, 16);
            same(41, "fine by " + penalty, x.leastFine(0), penalty == 999 ? -1 : penalty + 1);
            same(43, "glad by " + penalty, x.gladBy(16, penalty), penalty == 0 ? 1 : 0);
            same(43, "glad by less than " + penalty, x.gladBy(16, Math.max(0, penalty - 1)), 1);
            same(17, "owed", x.charge(ANN, 0, 0), 100 - penalty);
            same(13, "treasury", x.many(6), penalty);
        }
    }

    // Whole COINS between GAIN and LOSS, by CHANCE and SHARE
    private static void trades() {
        for (int chance = 0; chance <= 16; chance++) {
            for (int share = 0; share <= 16; share++) {
                HalfAccuser x = made("jurors 1;penalty 5;share " + share + ";person ann;person bob;");
                for (int d = 0; d < 10; d++) {
                    int fine = 1 + d * d * 11;
                    x.commit(BOB, fine, chance);
                    int gain = Math.max(0, chance * (fine * share / 16) - (16 - chance) * 5);
                    int fewest = (gain + 15) / 16;
                    int most = chance * fine / 16;
                    String of = chance + " " + share + " " + fine;
                    same(39, of, x.trade(ANN, d, 0), fewest > most ? -1 : fewest);
                    same(39, of, x.trade(ANN, d, 1), fewest > most ? -1 : most);
                    same(39, of, x.status(), fewest > most ? 8 : 0);
                }
            }
        }
    }

    private static int next(int s) {
        return (int) ((s * 2971L + 10739) % 65536);
    }

    // Seed, by a CHANCE that changes
    private static void hearings() {
        HalfAccuser x = null;
        for (int seed = 0; seed <= 9999; seed++) {
            if (seed % 150 == 0) {
                x = made("jurors 9;penalty 0;person ann;person bob skill 8;deed lie of bob fine 1 odds 8;");
            }
            int chance = seed * 7 % 17;
            x.train(ANN, chance);
            int votes = 0;
            int s = seed;
            for (int juror = 0; juror < 9; juror++) {
                s = next(s);
                votes += s / 8 % 16 < chance ? 1 : 0;
            }
            same(18, "hear by " + seed, x.hear(ANN, 0, seed), votes);
            x.reopen(0);
        }
    }

    // Seed, by one any of several PEOPLE and DEEDS
    private static void anybody() {
        for (int people = 2; people <= 8; people++) {
            int deeds = 2 + people;
            HalfAccuser x = null;
            for (int seed = 0; seed <= 9999; seed++) {
                if (seed % 60 == 0) {
                    x = made("jurors 1;fifth 0;" + Trial.times("person p#;", people)
                            + Trial.times("deed # of pa fine 1 odds 8;", deeds));
                    Calls.years(x, "any;");
                }
                int first = next(seed);
                int second = next(first);
                int person = first / 8 % people;
                int deed = second / 8 % deeds;
                x.mark();
                same(51, "steps", x.live(seed), 1);
                same(52, "missed by " + seed, x.lived(0), person == 0 ? 1 : 0);
                same(15, "who by " + seed, x.deed(deed, 4), person == 0 ? -1 : person);
                same(15, "votes by " + seed, x.deed(deed, 5), person == 0 ? -1 : next(second) / 8 % 16 < 8 ? 1 : 0);
                same(55, "back", x.back(), 0);
            }
        }
    }

    // NUMBERS of a CITY, at each that can be and can't be
    private static void numbersOfCities() {
        HalfAccuser x = null;
        for (int v = 0; v <= 9999; v++) {
            if (v % 60 == 0) {
                x = new HalfAccuser();
            }
            same(10, "coins " + v, Calls.city(x, "person a coins " + v + ";"), 0);
            same(14, "coins " + v, x.person(0, 0), v);
            if (v > 1010 && v % 97 > 0) {
                continue;
            }
            boolean can = v >= 1 && v <= 999;
            same(10, "fine " + v, Calls.city(x, "person a;deed l of a fine " + v + " odds 3;"), can ? 1 : -1);
            same(15, "fine " + v, x.deed(0, 1), can ? v : -1);
            same(10, "penalty " + v, Calls.city(x, "penalty " + v + ";"), v <= 999 ? 0 : -1);
            same(13, "penalty " + v, v <= 999 ? x.many(4) : -1, v <= 999 ? v : -1);
            x = v % 20 == 0 ? new HalfAccuser() : x;
        }
    }

    // NUMBERS of YEARS
    private static void numbersOfYears() {
        HalfAccuser x = null;
        for (int v = 0; v <= 9999; v++) {
            if (v % 25 == 0) {
                x = made("person ann coins " + v + ";person bob coins 9999;deed l of bob fine 1 odds 0;deed m of bob fine 1 odds 0;");
                x.mark();
            }
            x.back();
            x.mark();
            boolean can = v >= 1 && v <= 999;
            int base = v - v % 25;
            same(11, "when " + v, Calls.years(x, "when coins ann=" + v + ";earn ann 7;end;drop ann l for " + v + ";"), 3);
            same(51, "when " + v, x.live(0), v == base ? 3 : 2);
            same(51, "drop for " + v, x.person(ANN, 0), base + v + (v == base ? 7 : 0));
            same(51, "drop for " + v, x.person(BOB, 0), 9999 - v);
            if (v <= 1010 || v % 97 == 0) {
                same(11, "earn " + v, Calls.years(x, "earn ann " + v + ";"), can ? 1 : -1);
                same(12, "earn " + v, x.fault(0), can ? 0 : 4);
            }
        }
    }

    // loop 1 to 99, alone, twice within another, and behind 300 STEPS
    private static void rounds() {
        for (int n = 1; n <= 99; n++) {
            HalfAccuser x = made("person ann;");
            Calls.years(x, "loop " + n + ";earn ann 1;end;");
            same(51, "loop " + n, x.live(0), n + 1);
            same(51, "loop " + n, x.person(ANN, 0), 100 + n);
            Calls.years(x, "loop 2;loop " + n + ";earn ann 1;end;end;");
            same(51, "2 of " + n, x.live(0), 2 * n + 3);
            same(51, "2 of " + n, x.person(ANN, 0), 100 + 3 * n);
            Calls.years(x, "loop " + n + ";loop 4;earn ann 1;end;end;");
            int steps = Math.min(300, 1 + 5 * n);
            same(51, n + " of 4", x.live(0), steps);
            same(52, n + " of 4", x.lived(4), 1 + 5 * n > 300 ? 1 : 0);
            int earned = (steps - 1) / 5 * 4 + Math.max(0, (steps - 1) % 5 - 1);
            same(51, n + " of 4", x.person(ANN, 0), 100 + 3 * n + earned);
        }
    }

    // 8 and 16 bits, each
    private static void traysOfBytes() {
        HalfAccuser x = null;
        for (int v = -66000; v <= 66000; v++) {
            if (v % 250 == 0) {
                x = new HalfAccuser();
                x.tray(2, 1, 2);
                x.tray(3, 0, 2);
            }
            int tray = v >= -600 && v <= 600 && v % 2 == 0 ? 3 : 2;
            x.write(tray, 1, v);
            same(7, "read " + v, x.read(tray, 1), tray == 3 ? (byte) v : (short) v);
        }
    }

    // Each length of a TRAY, each place of it, each pour of it
    private static void places() {
        for (int many = 0; many <= 60; many++) {
            HalfAccuser x = new HalfAccuser();
            x.tray(1, 2, many);
            x.tray(0, 2, 60);
            for (int i = 0; i < many; i++) {
                same(6, "write", x.write(1, i, 1000 + i) ? 1 : 0, 1);
            }
            same(6, "write", x.write(1, many, 5) ? 1 : 0, 0);
            same(8, "pour", x.pour(1, 0, 0, 60 - many, many) ? 1 : 0, 1);
            same(8, "pour", x.pour(1, 0, 0, 0, many + 1) ? 1 : 0, 0);
            for (int i = 0; i < 60; i++) {
                same(8, "poured " + i + " of " + many, x.read(0, i), i < 60 - many ? 0 : 1000 + i - 60 + many);
            }
            for (int from = 0; from <= many; from++) {
                same(8, "pour from " + from, x.pour(1, from, 0, 0, many - from) ? 1 : 0, 1);
                same(7, "poured", x.read(0, 0), from < many ? 1000 + from : many == 0 ? 0 : 1000 + many - 1);
            }
            same(7, "read", x.read(1, many), -1);
        }
    }

    // Each set of eight PEOPLE, with DREADS of their own
    private static void sets() {
        int[] dreads = {5, 9, 2, 30, 9, 0, 14, 1};
        HalfAccuser x = null;
        for (int set = 0; set <= 255; set++) {
            if (set % 64 == 0) {
                StringBuilder city = new StringBuilder("jurors 1;fifth 0;share 16;" + Trial.times("person p#;", 8));
                for (int p = 0; p < 8; p++) {
                    if (dreads[p] > 0) {
                        city.append("deed d").append((char) ('a' + p)).append(" of p").append((char) ('a' + p)).append(" fine ")
                                .append(dreads[p]).append(" odds 16;");
                    }
                }
                x = made(city.toString());
            }
            int left = set;
            int before = -1;
            int sum = 0;
            while (left != before) {
                before = left;
                int all = 0;
                for (int p = 0; p < 8; p++) {
                    all += (before >> p & 1) * dreads[p];
                }
                sum = before == set ? all : sum;
                for (int p = 0; p < 8; p++) {
                    left &= dreads[p] * Integer.bitCount(before) < all ? ~(1 << p) : -1;
                }
            }
            same(46, "club " + set, x.club(set), left);
            if (set > 0) {
                fraction(47, "part of " + set, x, x.clubPart(set), sum, Integer.bitCount(set));
            }
        }
    }
}
