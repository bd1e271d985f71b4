import java.math.BigInteger;
import java.util.ArrayList;
import java.util.Arrays;
import java.util.HashMap;
import java.util.HashSet;
import java.util.List;
import java.util.Map;
import java.util.Set;
import java.util.regex.Matcher;
import java.util.regex.Pattern;

/** The document once more, written as slowly and plainly as it reads, to be compared with. */
final class Plain {
    static final class Refusal extends RuntimeException {
        private static final long serialVersionUID = 1;
        final int status;

        Refusal(int status) {
            super(null, null, false, false);
            this.status = status;
        }
    }

    static final class Fault extends RuntimeException {
        private static final long serialVersionUID = 1;
        final int kind;
        final int place;

        Fault(int kind, int place) {
            super(null, null, false, false);
            this.kind = kind;
            this.place = place;
        }
    }

    static final class Token {
        final String text;
        final int place;

        Token(String text, int place) {
            this.text = text;
            this.place = place;
        }

        boolean isWord() {
            return text.matches("[a-z]+");
        }

        boolean isNumber() {
            return text.matches("[0-9]{1,4}");
        }

        boolean isSign() {
            return text.matches("[;<>=]");
        }

        boolean isName() {
            return text.matches("[a-z]{1,8}") && !RESERVED.contains(text);
        }
    }

    static final Set<String> RESERVED = new HashSet<>(Arrays.asList("jurors", "fifth", "penalty", "share", "person",
            "coins", "skill", "deed", "of", "fine", "odds", "charge", "drop", "for", "earn", "any", "when", "open",
            "ruined", "loop", "end", "stop"));
    static final List<String> RULES = Arrays.asList("jurors", "fifth", "penalty", "share");
    static final int[] RULE_LEAST = {1, 0, 0, 0};
    static final int[] RULE_MOST = {9, 9, 999, 16};

    static final class Person implements Cloneable {
        String name;
        int coins = 100;
        int skill;
        int won;
        int owed;
        Set<Integer> dropped = new HashSet<>();

        Person twin() {
            Person p = new Person();
            p.name = name;
            p.coins = coins;
            p.skill = skill;
            p.won = won;
            p.owed = owed;
            p.dropped = new HashSet<>(dropped);
            return p;
        }
    }

    static final class Deed {
        String name;
        int owner;
        int fine;
        int odds;
        int state;
        int accuser;
        int votes;

        Deed twin() {
            Deed d = new Deed();
            d.name = name;
            d.owner = owner;
            d.fine = fine;
            d.odds = odds;
            d.state = state;
            d.accuser = accuser;
            d.votes = votes;
            return d;
        }
    }

    static final class Step {
        String word;
        String test;
        int first;
        int second;
        int number;
        List<Step> body = new ArrayList<>();
    }

    static final class World {
        int[] rules = {5, 1, 100, 8};
        List<Person> people = new ArrayList<>();
        List<Deed> deeds = new ArrayList<>();
        int treasury;
        int heard;
        List<Step> years;
        int stepCount;

        World twin() {
            World w = new World();
            w.rules = rules.clone();
            for (Person p : people) {
                w.people.add(p.twin());
            }
            for (Deed d : deeds) {
                w.deeds.add(d.twin());
            }
            w.treasury = treasury;
            w.heard = heard;
            w.years = years;
            w.stepCount = stepCount;
            return w;
        }

        int find(String name, boolean ofDeed) {
            int size = ofDeed ? deeds.size() : people.size();
            for (int i = 0; i < size; i++) {
                if (name.equals(ofDeed ? deeds.get(i).name : people.get(i).name)) {
                    return i;
                }
            }
            return -1;
        }

        boolean can(int p, int d) {
            Deed deed = deeds.get(d);
            Person who = people.get(p);
            return deed.state == 0 && deed.owner != p && !who.dropped.contains(d) && who.coins >= 0;
        }

        int chance(int p, int d) {
            Deed deed = deeds.get(d);
            int c = deed.odds + people.get(p).skill - people.get(deed.owner).skill;
            return c < 0 ? 0 : c > 16 ? 16 : c;
        }

        void pay(int p, int much) {
            Person who = people.get(p);
            who.coins += much;
            if (who.coins > 99999) {
                who.coins = 99999;
            }
            if (who.coins < -99999) {
                who.coins = -99999;
            }
        }

        String decide(int p, int d, int votes) {
            Deed deed = deeds.get(d);
            heard++;
            deed.accuser = p;
            deed.votes = votes;
            if (votes > rules[0] / 2.0) {
                deed.state = 1;
                people.get(p).won++;
                int part = (int) Math.floor(deed.fine * (rules[3] / 16.0));
                pay(deed.owner, -deed.fine);
                pay(p, part);
                treasury = Math.min(99999, treasury + deed.fine - part);
                return "won";
            }
            deed.state = 2;
            if (votes < rules[1]) {
                people.get(p).owed++;
                pay(p, -rules[2]);
                treasury = Math.min(99999, treasury + rules[2]);
                return "owed";
            }
            return "lost";
        }

        boolean canDrop(int p, int d, int coins) {
            return can(p, d) && people.get(deeds.get(d).owner).coins >= coins;
        }

        void drop(int p, int d, int coins) {
            pay(deeds.get(d).owner, -coins);
            pay(p, coins);
            people.get(p).dropped.add(d);
        }
    }

    static final class Dice {
        long s;

        Dice(long seed) {
            s = seed;
        }

        int draw(int n) {
            s = (s * 2971 + 10739) % 65536;
            return (int) (s / 8 % n);
        }

        int jury(World w, int p, int d) {
            int votes = 0;
            for (int i = 0; i < w.rules[0]; i++) {
                votes += draw(16) < w.chance(p, d) ? 1 : 0;
            }
            return votes;
        }
    }

    static final class Stop extends RuntimeException {
        private static final long serialVersionUID = 1;

        Stop() {
            super(null, null, false, false);
        }
    }

    static final class Run {
        final World w;
        final Dice dice;
        int steps;
        final int[] facts = new int[5];

        Run(World w, int seed) {
            this.w = w;
            dice = new Dice(seed);
            try {
                all(w.years);
            } catch (Stop stop) {
                // what was done stands
            }
        }

        private void all(List<Step> body) {
            for (Step step : body) {
                one(step);
            }
        }

        private void one(Step x) {
            if (steps == 300) {
                facts[4] = 1;
                throw new Stop();
            }
            steps++;
            if (x.word.equals("charge")) {
                charge(x.first, x.second);
            } else if (x.word.equals("drop")) {
                if (w.canDrop(x.first, x.second, x.number)) {
                    w.drop(x.first, x.second, x.number);
                } else {
                    facts[0]++;
                }
            } else if (x.word.equals("earn")) {
                w.pay(x.first, x.number);
            } else if (x.word.equals("any")) {
                if (w.people.isEmpty() || w.deeds.isEmpty()) {
                    facts[0]++;
                } else {
                    int p = dice.draw(w.people.size());
                    int d = dice.draw(w.deeds.size());
                    charge(p, d);
                }
            } else if (x.word.equals("when")) {
                if (holds(x)) {
                    all(x.body);
                }
            } else if (x.word.equals("loop")) {
                for (int i = 0; i < x.number; i++) {
                    all(x.body);
                }
            } else {
                throw new Stop();
            }
        }

        private boolean holds(Step x) {
            if (x.test.equals("open")) {
                return w.deeds.get(x.first).state == 0;
            }
            int coins = w.people.get(x.first).coins;
            if (x.test.equals("ruined")) {
                return coins < 0;
            }
            return x.test.equals("<") ? coins < x.number : x.test.equals(">") ? coins > x.number : coins == x.number;
        }

        private void charge(int p, int d) {
            if (!w.can(p, d)) {
                facts[0]++;
                return;
            }
            String outcome = w.decide(p, d, dice.jury(w, p, d));
            facts[1]++;
            facts[2] += outcome.equals("won") ? 1 : 0;
            facts[3] += outcome.equals("owed") ? 1 : 0;
        }
    }

    /** Reads texts; throws the first Fault along the text. */
    static final class Reader {
        private static final Pattern PIECE = Pattern.compile("[a-z]+|[0-9]+|[;<>=]|[ \\n]|.", Pattern.DOTALL);
        final List<Token> tokens = new ArrayList<>();
        int next;
        int stepCount;

        Reader(String text) {
            Matcher m = PIECE.matcher(text);
            while (m.find()) {
                if (!m.group().equals(" ") && !m.group().equals("\n")) {
                    tokens.add(new Token(m.group(), m.start()));
                }
            }
            tokens.add(new Token("", text.length()));
        }

        Token peek() {
            Token t = tokens.get(next);
            if (!t.text.isEmpty() && !t.isWord() && !t.isNumber() && !t.isSign()) {
                throw new Fault(1, t.place);
            }
            return t;
        }

        boolean sees(String text) {
            return peek().text.equals(text);
        }

        boolean ended() {
            return peek().text.isEmpty();
        }

        void need(String text) {
            if (!sees(text)) {
                throw new Fault(2, peek().place);
            }
            next++;
        }

        int number(int least, int most) {
            Token t = peek();
            if (!t.isNumber()) {
                throw new Fault(2, t.place);
            }
            int v = Integer.parseInt(t.text);
            if (v < least || v > most) {
                throw new Fault(4, t.place);
            }
            next++;
            return v;
        }

        Token name() {
            Token t = peek();
            if (!t.isName()) {
                throw new Fault(2, t.place);
            }
            next++;
            return t;
        }

        String newName(World w) {
            Token t = name();
            if (w.find(t.text, true) >= 0 || w.find(t.text, false) >= 0) {
                throw new Fault(3, t.place);
            }
            return t.text;
        }

        int known(World w, boolean deed) {
            Token t = name();
            int found = w.find(t.text, deed);
            if (found < 0) {
                throw new Fault(3, t.place);
            }
            return found;
        }

        World city() {
            World w = new World();
            Set<String> told = new HashSet<>();
            while (!ended()) {
                Token t = peek();
                if (RULES.contains(t.text)) {
                    if (!told.add(t.text)) {
                        throw new Fault(5, t.place);
                    }
                    next++;
                    int r = RULES.indexOf(t.text);
                    w.rules[r] = number(RULE_LEAST[r], RULE_MOST[r]);
                } else if (sees("person")) {
                    if (w.people.size() == 8) {
                        throw new Fault(6, t.place);
                    }
                    next++;
                    Person p = new Person();
                    p.name = newName(w);
                    if (sees("coins")) {
                        next++;
                        p.coins = number(0, 9999);
                    }
                    if (sees("skill")) {
                        next++;
                        p.skill = number(0, 16);
                    }
                    w.people.add(p);
                } else if (sees("deed")) {
                    if (w.deeds.size() == 10) {
                        throw new Fault(6, t.place);
                    }
                    next++;
                    Deed d = new Deed();
                    d.name = newName(w);
                    need("of");
                    d.owner = known(w, false);
                    need("fine");
                    d.fine = number(1, 999);
                    need("odds");
                    d.odds = number(0, 16);
                    w.deeds.add(d);
                } else {
                    throw new Fault(2, t.place);
                }
                need(";");
            }
            return w;
        }

        List<Step> years(World w) {
            List<Step> all = block(w, 0);
            if (!ended()) {
                throw new Fault(2, peek().place);
            }
            return all;
        }

        private List<Step> block(World w, int depth) {
            List<Step> all = new ArrayList<>();
            while (!ended() && !sees("end")) {
                all.add(step(w, depth));
            }
            return all;
        }

        private Step step(World w, int depth) {
            Token t = peek();
            if (!Arrays.asList("charge", "drop", "earn", "any", "when", "loop", "stop").contains(t.text)) {
                throw new Fault(2, t.place);
            }
            stepCount++;
            if (stepCount > 30) {
                throw new Fault(6, t.place);
            }
            boolean block = t.text.equals("when") || t.text.equals("loop");
            if (block && depth == 3) {
                throw new Fault(7, t.place);
            }
            next++;
            Step x = new Step();
            x.word = t.text;
            if (x.word.equals("charge") || x.word.equals("drop")) {
                x.first = known(w, false);
                x.second = known(w, true);
                if (x.word.equals("drop")) {
                    need("for");
                    x.number = number(0, 9999);
                }
            } else if (x.word.equals("earn")) {
                x.first = known(w, false);
                x.number = number(1, 999);
            } else if (x.word.equals("loop")) {
                x.number = number(1, 99);
            } else if (x.word.equals("when")) {
                test(x, w);
            }
            need(";");
            if (block) {
                x.body = block(w, depth + 1);
                need("end");
                need(";");
            }
            return x;
        }

        private void test(Step x, World w) {
            Token t = peek();
            if (sees("open")) {
                next++;
                x.test = "open";
                x.first = known(w, true);
            } else if (sees("ruined")) {
                next++;
                x.test = "ruined";
                x.first = known(w, false);
            } else if (sees("coins")) {
                next++;
                x.first = known(w, false);
                Token sign = peek();
                if (!sign.text.matches("[<>=]")) {
                    throw new Fault(2, sign.place);
                }
                next++;
                x.test = sign.text;
                x.number = number(0, 9999);
            } else {
                throw new Fault(2, t.place);
            }
        }
    }

    // ---- the state

    int status;
    BigInteger top = BigInteger.ZERO;
    BigInteger bottom = BigInteger.ONE;
    final long[][] trays = new long[4][];
    final int[] sorts = new int[4];
    String tape = "";
    int fault = -1;
    int faultPlace = -1;
    World w = new World();
    final List<World> marks = new ArrayList<>();
    int[] lived;

    static final Set<String> BOOLEANS = new HashSet<>(Arrays.asList("tray", "write", "pour", "reopen", "train", "rule",
            "votes", "wins", "owes", "gain", "loss", "plan", "dread", "game", "clubPart", "mean"));
    static final Set<String> SILENT = new HashSet<>(Arrays.asList("status", "fault", "feed", "top", "bottom"));

    long call(String name, long... a) {
        if (SILENT.contains(name)) {
            return silent(name, a);
        }
        try {
            long answer = ask(name, a);
            status = 0;
            return answer;
        } catch (Refusal refusal) {
            status = refusal.status;
            return BOOLEANS.contains(name) ? 0 : -1;
        }
    }

    private long silent(String name, long[] a) {
        switch (name) {
            case "status":
                return status;
            case "top":
                return top.longValueExact();
            case "bottom":
                return bottom.longValueExact();
            case "fault":
                return a[0] == 0 ? fault : a[0] == 1 ? faultPlace : -1;
            default:
                if (tape.length() + 20 > 900) {
                    return -1;
                }
                StringBuilder more = new StringBuilder(tape);
                for (long v : a) {
                    for (int i = 3; i >= 0; i--) {
                        more.append((char) ((int) v >>> 8 * i & 255));
                    }
                }
                tape = more.toString();
                return tape.length();
        }
    }

    private static void refuseIf(boolean so, int status) {
        if (so) {
            throw new Refusal(status);
        }
    }

    private void needPerson(long p) {
        refuseIf(p < 0 || p >= w.people.size(), 2);
    }

    private void needDeed(long d) {
        refuseIf(d < 0 || d >= w.deeds.size(), 2);
    }

    private static void needIn(long v, long least, long most) {
        refuseIf(v < least || v > most, 5);
    }

    private long tell(BigInteger over, BigInteger under) {
        BigInteger common = over.gcd(under);
        top = over.divide(common);
        bottom = under.divide(common);
        return 1;
    }

    private long tell(long over, long under) {
        return tell(BigInteger.valueOf(over), BigInteger.valueOf(under));
    }

    private long whole() {
        long v = 1;
        for (int i = 0; i < w.rules[0]; i++) {
            v *= 16;
        }
        return v;
    }

    // Every way in which each of the jurors votes or not.
    private static final Map<Integer, long[]> VOTES = new HashMap<>();

    private long[] votes(int p, int d) {
        int jurors = w.rules[0];
        int c = w.chance(p, d);
        return VOTES.computeIfAbsent(jurors * 17 + c, key -> {
            long[] v = new long[jurors + 1];
            for (int who = 0; who < 1 << jurors; who++) {
                long ways = 1;
                for (int i = 0; i < jurors; i++) {
                    ways *= (who >> i & 1) == 1 ? c : 16 - c;
                }
                v[Integer.bitCount(who)] += ways;
            }
            return v;
        });
    }

    private long wins(int p, int d) {
        long[] v = votes(p, d);
        long sum = 0;
        for (int k = 0; k < v.length; k++) {
            sum += k > w.rules[0] / 2.0 ? v[k] : 0;
        }
        return sum;
    }

    private long owes(int p, int d) {
        long[] v = votes(p, d);
        long sum = 0;
        for (int k = 0; k < v.length; k++) {
            sum += !(k > w.rules[0] / 2.0) && k < w.rules[1] ? v[k] : 0;
        }
        return sum;
    }

    private long gain(int p, int d, int fine, int share, int penalty) {
        return wins(p, d) * (fine * share / 16) - owes(p, d) * penalty;
    }

    private long gain(int p, int d) {
        return gain(p, d, w.deeds.get(d).fine, w.rules[3], w.rules[2]);
    }

    private long loss(int p, int d) {
        return wins(p, d) * w.deeds.get(d).fine;
    }

    private boolean anyGlad(int d, int fine, int share, int penalty) {
        for (int p = 0; p < w.people.size(); p++) {
            if (w.can(p, d) && gain(p, d, fine, share, penalty) > 0) {
                return true;
            }
        }
        return false;
    }

    private boolean anyGlad(int d) {
        return anyGlad(d, w.deeds.get(d).fine, w.rules[3], w.rules[2]);
    }

    private long worst(int d) {
        long most = -1;
        for (int p = 0; p < w.people.size(); p++) {
            if (w.can(p, d) && gain(p, d) > 0) {
                most = Math.max(most, loss(p, d));
            }
        }
        return most;
    }

    private long dread(int p) {
        long sum = 0;
        for (int d = 0; d < w.deeds.size(); d++) {
            if (w.deeds.get(d).owner == p && w.deeds.get(d).state == 0 && worst(d) > 0) {
                sum += worst(d);
            }
        }
        return sum;
    }

    // By turns left; the one whose turn it is tries all and nothing.
    private long game(int a, int b, int left, Set<Integer> done) {
        if (left == 0) {
            return 0;
        }
        long best = -game(b, a, left - 1, done);
        for (int d = 0; d < w.deeds.size(); d++) {
            if (w.deeds.get(d).owner == b && w.can(a, d) && done.add(d)) {
                best = Math.max(best, gain(a, d) + loss(a, d) - game(b, a, left - 1, done));
                done.remove(d);
            }
        }
        return best;
    }

    private int move(int a, int b, int turns) {
        long best = game(a, b, turns, new HashSet<>());
        for (int d = 0; d < w.deeds.size(); d++) {
            if (w.deeds.get(d).owner == b && w.can(a, d)) {
                Set<Integer> done = new HashSet<>();
                done.add(d);
                if (gain(a, d) + loss(a, d) - game(b, a, turns - 1, done) == best) {
                    return d;
                }
            }
        }
        return -1;
    }

    private int club(int people) {
        while (true) {
            long sum = 0;
            for (int p = 0; p < 8; p++) {
                sum += (people >> p & 1) == 1 ? dread(p) : 0;
            }
            int staying = 0;
            for (int p = 0; p < 8; p++) {
                if ((people >> p & 1) == 1 && dread(p) * Integer.bitCount(people) >= sum) {
                    staying |= 1 << p;
                }
            }
            if (staying == people) {
                return people;
            }
            people = staying;
        }
    }

    private void ways(int p, int d, int sum, int won, int much, int[] found) {
        if (d == w.deeds.size()) {
            if (sum == much) {
                found[0]++;
                found[1] &= won;
            }
            return;
        }
        if (w.deeds.get(d).owner == p) {
            ways(p, d + 1, sum, won, much, found);
            return;
        }
        ways(p, d + 1, sum, won, much, found);
        ways(p, d + 1, sum + w.deeds.get(d).fine * w.rules[3] / 16, won | 1 << d, much, found);
        ways(p, d + 1, sum - w.rules[2], won, much, found);
    }

    private int deedSet(java.util.function.IntPredicate which) {
        int set = 0;
        for (int d = 0; d < w.deeds.size(); d++) {
            set |= which.test(d) ? 1 << d : 0;
        }
        return set;
    }

    private static int setOf(Set<Integer> all) {
        int set = 0;
        for (int i : all) {
            set |= 1 << i;
        }
        return set;
    }

    private void needTray(long t) {
        refuseIf(t < 0 || t > 3, 1);
        refuseIf(trays[(int) t] == null, 3);
    }

    private static long cut(long v, int sort) {
        BigInteger size = BigInteger.ONE.shiftLeft(8 << sort);
        BigInteger rest = BigInteger.valueOf(v).mod(size);
        return rest.compareTo(size.shiftRight(1)) >= 0 ? rest.subtract(size).longValue() : rest.longValue();
    }

    private String cutTape(long n) {
        refuseIf(n < 0 || n > tape.length(), 5);
        String text = tape.substring(0, (int) n);
        tape = "";
        return text;
    }

    private long ask(String name, long[] a) {
        int x = a.length > 0 ? (int) a[0] : 0;
        int y = a.length > 1 ? (int) a[1] : 0;
        int z = a.length > 2 ? (int) a[2] : 0;
        switch (name) {
            case "tray":
                refuseIf(x < 0 || x > 3 || y < 0 || y > 3, 1);
                refuseIf(z > 60, 5);
                refuseIf(z < 0, 6);
                trays[x] = new long[z];
                sorts[x] = y;
                return 1;
            case "write":
                needTray(x);
                refuseIf(y < 0 || y >= trays[x].length, 4);
                trays[x][y] = cut(a[2], sorts[x]);
                return 1;
            case "read":
                needTray(x);
                refuseIf(y < 0 || y >= trays[x].length, 4);
                return trays[x][y];
            case "pour":
                return pour(a);
            case "city":
            case "years":
                return text(name.equals("city"), a[0]);
            case "many":
                return many(x);
            case "person":
                return person(x, y);
            case "deed":
                return deed(x, y);
            case "copyCoins":
                needTray(x);
                refuseIf(trays[x].length < w.people.size(), 4);
                for (int p = 0; p < w.people.size(); p++) {
                    trays[x][p] = cut(w.people.get(p).coins, sorts[x]);
                }
                return w.people.size();
            case "charge":
            case "hear":
            case "drop":
                return done(name, x, y, z);
            case "commit":
                return commit(x, y, z);
            case "reopen":
                needDeed(x);
                refuseIf(w.deeds.get(x).state == 0, 9);
                w.deeds.get(x).state = 0;
                for (Person p : w.people) {
                    p.dropped.remove(x);
                }
                return 1;
            case "train":
                needPerson(x);
                needIn(y, 0, 16);
                w.people.get(x).skill = y;
                return 1;
            case "earn":
                needPerson(x);
                needIn(y, -9999, 9999);
                w.pay(x, y);
                return w.people.get(x).coins;
            case "rule":
                needIn(x, 0, 3);
                needIn(y, RULE_LEAST[x], RULE_MOST[x]);
                w.rules[x] = y;
                return 1;
            case "can":
                needPerson(x);
                needDeed(y);
                return w.can(x, y) ? 1 : 0;
            case "chance":
            case "votes":
            case "wins":
            case "owes":
            case "gain":
            case "loss":
                return vote(name, x, y, z);
            case "best":
            case "plan":
            case "dreaded":
            case "dread":
                return ofPerson(name, x, y);
            case "accuser":
            case "friend":
            case "leastShare":
            case "leastFine":
            case "mostPenalty":
                return ofDeed(name, x);
            case "quiet":
                return deedSet(d -> w.deeds.get(d).state == 0 && !anyGlad(d));
            case "trade":
                return trade(x, y, z);
            case "gladBy":
                needIn(x, 0, 16);
                needIn(y, 0, 999);
                return deedSet(d -> anyGlad(d, w.deeds.get(d).fine, x, y));
            case "game":
                needPerson(x);
                needPerson(y);
                refuseIf(x == y, 5);
                needIn(z, 0, 3);
                return tell(game(x, y, z, new HashSet<>()), whole());
            case "moveOf":
                needPerson(x);
                needPerson(y);
                refuseIf(x == y, 5);
                needIn(z, 1, 3);
                refuseIf(move(x, y, z) < 0, 8);
                return move(x, y, z);
            case "club":
                needIn(x, 0, (1 << w.people.size()) - 1);
                return club(x);
            case "clubPart":
                needIn(x, 1, (1 << w.people.size()) - 1);
                long sum = 0;
                for (int p = 0; p < 8; p++) {
                    sum += (x >> p & 1) == 1 ? dread(p) : 0;
                }
                return tell(sum, whole() * Integer.bitCount(x));
            case "gained":
            case "sure":
            case "bound":
                return past(name, x, y);
            default:
                return years(name, x, y);
        }
    }

    private long pour(long[] a) {
        refuseIf(a[0] < 0 || a[0] > 3 || a[2] < 0 || a[2] > 3, 1);
        int from = (int) a[0];
        int to = (int) a[2];
        refuseIf(trays[from] == null || trays[to] == null, 3);
        refuseIf(sorts[from] != sorts[to], 11);
        refuseIf(a[4] < 0, 6);
        refuseIf(a[1] < 0 || a[3] < 0 || a[1] + a[4] > trays[from].length || a[3] + a[4] > trays[to].length, 4);
        long[] old = trays[from].clone();
        for (int k = 0; k < a[4]; k++) {
            trays[to][(int) a[3] + k] = old[(int) a[1] + k];
        }
        return 1;
    }

    private long text(boolean city, long n) {
        refuseIf(!city && n > 300, 5);
        Reader reader = new Reader(cutTape(n));
        try {
            fault = 0;
            faultPlace = -1;
            if (city) {
                w = reader.city();
                return w.deeds.size();
            }
            List<Step> all = reader.years(w);
            w.years = all;
            w.stepCount = reader.stepCount;
            return w.stepCount;
        } catch (Fault f) {
            fault = f.kind;
            faultPlace = f.place;
            throw new Refusal(10);
        }
    }

    private long many(int what) {
        needIn(what, 0, 10);
        switch (what) {
            case 0:
                return w.people.size();
            case 1:
                return w.deeds.size();
            case 6:
                return w.treasury;
            case 7:
                return deedSet(d -> w.deeds.get(d).state == 0);
            case 8:
                return deedSet(d -> w.deeds.get(d).state == 1);
            case 9:
                int set = 0;
                for (int p = 0; p < w.people.size(); p++) {
                    set |= w.people.get(p).coins < 0 ? 1 << p : 0;
                }
                return set;
            case 10:
                return w.heard;
            default:
                return w.rules[what - 2];
        }
    }

    private long person(int x, int what) {
        needPerson(x);
        needIn(what, 0, 5);
        Person p = w.people.get(x);
        long[] facts = {p.coins, p.skill, p.won, p.owed, deedSet(d -> w.deeds.get(d).owner == x), setOf(p.dropped)};
        return facts[what];
    }

    private long deed(int x, int what) {
        needDeed(x);
        needIn(what, 0, 5);
        Deed d = w.deeds.get(x);
        refuseIf(what > 3 && d.state == 0, 8);
        return new long[] {d.owner, d.fine, d.odds, d.state, d.accuser, d.votes}[what];
    }

    private long done(String name, int p, int d, int v) {
        needPerson(p);
        needDeed(d);
        if (name.equals("charge")) {
            needIn(v, 0, w.rules[0]);
            refuseIf(!w.can(p, d), 9);
            w.decide(p, d, v);
            return w.people.get(p).coins;
        }
        needIn(v, 0, 9999);
        if (name.equals("hear")) {
            refuseIf(!w.can(p, d), 9);
            int votes = new Dice(v).jury(w, p, d);
            w.decide(p, d, votes);
            return votes;
        }
        refuseIf(!w.canDrop(p, d, v), 9);
        w.drop(p, d, v);
        return w.people.get(p).coins;
    }

    private long commit(int p, int fine, int odds) {
        needPerson(p);
        needIn(fine, 1, 999);
        needIn(odds, 0, 16);
        refuseIf(w.deeds.size() >= 10, 7);
        Deed d = new Deed();
        d.name = "";
        d.owner = p;
        d.fine = fine;
        d.odds = odds;
        w.deeds.add(d);
        return w.deeds.size() - 1;
    }

    private long vote(String name, int p, int d, int k) {
        needPerson(p);
        needDeed(d);
        if (name.equals("votes")) {
            needIn(k, 0, w.rules[0]);
        }
        refuseIf(w.deeds.get(d).owner == p, 9);
        switch (name) {
            case "chance":
                return w.chance(p, d);
            case "votes":
                return tell(votes(p, d)[k], whole());
            case "wins":
                return tell(wins(p, d), whole());
            case "owes":
                return tell(owes(p, d), whole());
            default:
                refuseIf(w.people.get(p).coins < 0, 9);
                return tell(name.equals("gain") ? gain(p, d) : loss(p, d), whole());
        }
    }

    private long ofPerson(String name, int p, int n) {
        needPerson(p);
        List<Long> gains = new ArrayList<>();
        int best = -1;
        for (int d = 0; d < w.deeds.size(); d++) {
            if (w.can(p, d) && gain(p, d) > 0) {
                gains.add(gain(p, d));
                best = best < 0 || gain(p, d) > gain(p, best) ? d : best;
            }
        }
        if (name.equals("best")) {
            refuseIf(best < 0, 8);
            return best;
        }
        if (name.equals("plan")) {
            needIn(n, 0, 10);
            gains.sort((a, b) -> Long.compare(b, a));
            long sum = 0;
            for (int i = 0; i < n && i < gains.size(); i++) {
                sum += gains.get(i);
            }
            return tell(sum, whole());
        }
        if (name.equals("dread")) {
            return tell(dread(p), whole());
        }
        int dreaded = -1;
        for (int d = 0; d < w.deeds.size(); d++) {
            if (w.deeds.get(d).owner == p && w.deeds.get(d).state == 0 && worst(d) >= 0
                    && (dreaded < 0 || worst(d) > worst(dreaded))) {
                dreaded = d;
            }
        }
        refuseIf(dreaded < 0, 8);
        return dreaded;
    }

    private long ofDeed(String name, int d) {
        needDeed(d);
        int best = -1;
        int friend = -1;
        for (int p = 0; p < w.people.size(); p++) {
            if (w.can(p, d)) {
                best = gain(p, d) > 0 && (best < 0 || gain(p, d) > gain(best, d)) ? p : best;
                friend = friend < 0 || loss(p, d) < loss(friend, d) ? p : friend;
            }
        }
        int fine = w.deeds.get(d).fine;
        int answer = -1;
        switch (name) {
            case "accuser":
                answer = best;
                break;
            case "friend":
                answer = friend;
                break;
            case "leastShare":
                for (int s = 16; s >= 0; s--) {
                    answer = anyGlad(d, fine, s, w.rules[2]) ? s : answer;
                }
                break;
            case "leastFine":
                for (int f = 999; f >= 1; f--) {
                    answer = anyGlad(d, f, w.rules[3], w.rules[2]) ? f : answer;
                }
                break;
            default:
                for (int f = 0; f <= 999; f++) {
                    answer = anyGlad(d, fine, w.rules[3], f) ? f : answer;
                }
                break;
        }
        refuseIf(answer < 0, 8);
        return answer;
    }

    private long trade(int p, int d, int what) {
        needPerson(p);
        needDeed(d);
        needIn(what, 0, 1);
        refuseIf(!w.can(p, d), 9);
        List<Integer> between = new ArrayList<>();
        for (int c = 0; c <= 999; c++) {
            if (c * whole() >= gain(p, d) && c * whole() <= loss(p, d)) {
                between.add(c);
            }
        }
        refuseIf(between.isEmpty(), 8);
        return between.get(what == 0 ? 0 : between.size() - 1);
    }

    private long past(String name, int p, int v) {
        needPerson(p);
        if (name.equals("bound")) {
            needIn(v, 0, 1);
            int most = 0;
            int least = 0;
            for (Deed d : w.deeds) {
                most += d.owner == p ? 0 : d.fine * w.rules[3] / 16;
                least -= d.owner == p ? 0 : w.rules[2];
            }
            return v == 0 ? most : least;
        }
        needIn(v, -9999, 9999);
        int[] found = {0, 1023};
        ways(p, 0, 0, 0, v, found);
        if (name.equals("gained")) {
            return found[0];
        }
        refuseIf(found[0] == 0, 8);
        return found[1];
    }

    private long years(String name, int x, int y) {
        switch (name) {
            case "live":
                needIn(x, 0, 9999);
                refuseIf(w.years == null, 8);
                Run run = new Run(w, x);
                lived = run.facts;
                return run.steps;
            case "lived":
                needIn(x, 0, 4);
                refuseIf(lived == null, 8);
                return lived[x];
            case "mean":
                needIn(x, 0, 9999);
                needIn(y, 1, 20);
                needIn(x + y - 1, 0, 9999);
                refuseIf(w.years == null, 8);
                long sum = 0;
                for (int i = 0; i < y; i++) {
                    sum += new Run(w.twin(), x + i).w.treasury;
                }
                return tell(sum, y);
            case "mark":
                refuseIf(marks.size() == 3, 7);
                marks.add(w.twin());
                return marks.size();
            case "back":
                refuseIf(marks.isEmpty(), 8);
                w = marks.remove(marks.size() - 1);
                return marks.size();
            default:
                throw new IllegalStateException(name);
        }
    }
}
