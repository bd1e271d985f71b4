import java.util.ArrayList;
import java.util.LinkedHashMap;
import java.util.List;
import java.util.Map;

/** Each call that does something, in a city where much has been done: what it changes, and that it changes that alone. */
public final class ActionTests extends Trial {
    private static final String CITY = "jurors 3;penalty 40;person ann coins 50 skill 4;person bob coins 200;"
            + "person cid coins 30 skill 8;deed theft of bob fine 100 odds 8;deed lie of bob fine 60 odds 4;"
            + "deed corn of cid fine 300 odds 12;deed noise of ann fine 10 odds 16;";
    private static final String YEARS = "earn bob 3;charge cid noise;drop ann lie for 999;stop;any;";
    private static final int ANN = 0;
    private static final int BOB = 1;
    private static final int CID = 2;
    private static final int THEFT = 0;
    private static final int LIE = 1;
    private static final int CORN = 2;
    private static final int NOISE = 3;

    private ActionTests() {
    }

    public static void main(String[] args) {
        atFirst();
        ofTrays();
        ofTexts();
        ofCharges();
        ofDrops();
        ofDeedsAndPeople();
        ofRules();
        ofYears();
        ofMarks();
        ofQuestions();
        askedAhead();
        Check.end("ActionTests");
    }

    // Two MARKS, one DEED WON, one CLOSED, one committed, DROPPED ones, a FRACTION, a FAULT, bytes on the tape.
    private static Story lived(boolean asked) {
        Story s = new Story();
        s.call("tray", 0, 2, 3);
        s.call("write", 0, 1, 77);
        s.call("tray", 1, 0, 4);
        s.call("write", 1, 3, 5);
        s.city(CITY);
        s.years(YEARS);
        s.call("mark");
        s.call("live", 0);
        s.call("drop", CID, LIE, 3);
        s.call("drop", BOB, CORN, 2);
        s.call("charge", ANN, LIE, 0);
        s.call("commit", CID, 7, 7);
        s.call("mark");
        s.call("earn", CID, 20);
        s.call("years", s.feed("any?"));
        if (asked) {
            s.call("gain", ANN, THEFT);
        }
        s.feed("jurors 9;");
        return s;
    }

    private static void tell(Story s, Map<String, String> facts, String name, long... a) {
        StringBuilder key = new StringBuilder(name);
        for (long v : a) {
            key.append(' ').append(v);
        }
        long answer = s.call(name, a);
        int status = Plain.SILENT.contains(name) ? 0 : s.status();
        facts.put(key.toString(), status == 0 ? "" + answer : "refused " + status);
    }

    /** All that can be seen of an object; then its tape, its YEARS and its MARKS, that go by being looked at. */
    private static Map<String, String> facts(Story s) {
        Map<String, String> facts = new LinkedHashMap<>();
        tell(s, facts, "top");
        tell(s, facts, "bottom");
        tell(s, facts, "fault", 0);
        tell(s, facts, "fault", 1);
        for (int i = 0; i < 16; i++) {
            tell(s, facts, "read", i / 4, i % 4);
        }
        for (int what = 0; what < 5; what++) {
            tell(s, facts, "lived", what);
        }
        for (int what = 0; what < 11; what++) {
            tell(s, facts, "many", what);
        }
        for (int i = 0; i < 18; i++) {
            tell(s, facts, "person", i / 6, i % 6);
        }
        for (int i = 0; i < 36; i++) {
            tell(s, facts, "deed", i / 6, i % 6);
        }
        tell(s, facts, "feed", 0, 0, 0, 0, 0);
        tell(s, facts, "live", 0);
        for (int i = 1; i <= 3; i++) {
            long answer = s.call("back");
            facts.put("back " + i, s.status() + " " + answer + " many " + s.call("many", 1) + " " + s.call("many", 6) + " "
                    + s.call("many", 7) + " coins " + s.call("person", CID, 0) + " steps " + s.call("live", 1));
        }
        return facts;
    }

    private static void compare(String what, Map<String, String> got, Map<String, String> due) {
        for (String key : due.keySet()) {
            Check.that(what + ": " + key + " is " + got.get(key) + ", due is " + due.get(key),
                    due.get(key).equals(got.get(key)));
        }
    }

    /** The call with what it answers, and the facts that are other ones behind it: "many 6=9". */
    private static void changes(int promise, String call, long answer, String... others) {
        Check.promise(promise);
        String[] parts = call.split(" ");
        Map<String, String> due = facts(lived(true));
        for (String other : others) {
            String key = other.substring(0, other.indexOf('='));
            Check.that(other + " is no change by " + call, due.containsKey(key) && !other.equals(key + "=" + due.get(key)));
            due.put(key, other.substring(key.length() + 1));
        }
        Story s = lived(true);
        Check.same(call, s.call(parts[0], numbers(parts)), answer);
        compare(call, facts(s), due);
    }

    private static void fact(Map<String, String> facts, String key, String due) {
        Check.that(key + " is " + facts.get(key) + ", due is " + due, due.equals(facts.get(key)));
    }

    // What the changes below start from.
    private static void atFirst() {
        Check.promise(13);
        Map<String, String> facts = facts(lived(true));
        String[] due = {"top=665", "bottom=16", "fault 0=1", "fault 1=3", "read 0 1=77", "read 1 3=5", "read 0 3=refused 4",
            "read 2 0=refused 3", "lived 0=1", "lived 1=1", "lived 2=1", "lived 3=0", "lived 4=0", "many 0=3", "many 1=5",
            "many 2=3", "many 3=1", "many 4=40", "many 5=8", "many 6=45", "many 7=21", "many 8=8", "many 9=0", "many 10=2",
            "person 0 0=0", "person 0 1=4", "person 0 2=0", "person 0 3=1", "person 0 4=8", "person 0 5=0", "person 1 0=202",
            "person 1 4=3", "person 1 5=4", "person 2 0=56", "person 2 2=1", "person 2 4=20", "person 2 5=2", "deed 0 3=0",
            "deed 0 4=refused 8", "deed 1 3=2", "deed 1 4=0", "deed 1 5=0", "deed 2 3=0", "deed 3 3=1", "deed 3 4=2",
            "deed 3 5=3", "deed 4 0=2", "deed 4 1=7", "deed 4 2=7", "deed 5 0=refused 2", "feed 0 0 0 0 0=40", "live 0=4",
            "back 1=0 1 many 5 45 21 coins 36 steps 4", "back 2=0 0 many 4 0 15 coins 30 steps 4",
            "back 3=8 -1 many 4 5 7 coins 35 steps 4"};
        for (String one : due) {
            int sign = one.indexOf('=');
            fact(facts, one.substring(0, sign), one.substring(sign + 1));
        }
    }

    private static void ofTrays() {
        changes(5, "tray 3 1 2", 1, "read 3 0=0", "read 3 1=0", "read 3 2=refused 4", "read 3 3=refused 4");
        changes(5, "tray 0 0 2", 1, "read 0 1=0", "read 0 2=refused 4");
        changes(6, "write 0 0 -5", 1, "read 0 0=-5");
        changes(6, "write 1 3 200", 1, "read 1 3=-56");
        changes(8, "pour 0 1 0 0 2", 1, "read 0 0=77", "read 0 1=0");
        changes(8, "pour 1 3 1 2 1", 1, "read 1 2=5");
        changes(16, "copyCoins 1", 3, "read 1 1=-54", "read 1 2=56");
        changes(16, "copyCoins 0", 3, "read 0 1=202", "read 0 2=56");
    }

    private static String[] cityOfNobody() {
        List<String> all = new ArrayList<>();
        String[] facts = {"fault 0=0", "fault 1=-1", "many 0=0", "many 1=0", "many 2=5", "many 4=100", "many 6=0", "many 7=0",
            "many 8=0", "many 10=0", "feed 0 0 0 0 0=20", "live 0=refused 8"};
        for (String fact : facts) {
            all.add(fact);
        }
        for (int i = 0; i < 18; i++) {
            all.add("person " + i / 6 + " " + i % 6 + "=refused 2");
        }
        for (int i = 0; i < 30; i++) {
            all.add("deed " + i / 6 + " " + i % 6 + "=refused 2");
        }
        return all.toArray(new String[0]);
    }

    private static void ofTexts() {
        changes(9, "feed 0 0 0 0 0", 40, "feed 0 0 0 0 0=60");
        changes(10, "city 0", 0, cityOfNobody());
        changes(11, "years 0", 0, "fault 0=0", "fault 1=-1", "feed 0 0 0 0 0=20", "live 0=0");
        // Those that are refused with 10 change the tape and what fault() tells.
        changes(10, "city 8", -1, "fault 0=2", "fault 1=8", "feed 0 0 0 0 0=20");
        changes(11, "years 9", -1, "fault 0=2", "fault 1=0", "feed 0 0 0 0 0=20");
        changes(12, "fault 0", 1);
        changes(12, "fault 2", -1);
    }

    private static void ofCharges() {
        changes(17, "charge 0 0 2", 50, "person 0 0=50", "person 0 2=1", "person 1 0=102", "many 6=95", "many 7=20",
                "many 8=9", "many 10=3", "deed 0 3=1", "deed 0 4=0", "deed 0 5=2");
        changes(17, "charge 0 0 1", 0, "many 7=20", "many 10=3", "deed 0 3=2", "deed 0 4=0", "deed 0 5=1");
        changes(17, "charge 0 0 0", -40, "person 0 0=-40", "person 0 3=2", "many 6=85", "many 7=20", "many 9=1",
                "many 10=3", "deed 0 3=2", "deed 0 4=0", "deed 0 5=0");
        changes(17, "charge 0 2 3", 150, "person 0 0=150", "person 0 2=1", "person 2 0=-244", "many 6=195", "many 7=17",
                "many 8=12", "many 9=4", "many 10=3", "deed 2 3=1", "deed 2 4=0", "deed 2 5=3");
        // From seed 0 on the draws by 16 are 14, 2, 1.
        changes(18, "hear 0 0 0", 2, "person 0 0=50", "person 0 2=1", "person 1 0=102", "many 6=95", "many 7=20",
                "many 8=9", "many 10=3", "deed 0 3=1", "deed 0 4=0", "deed 0 5=2");
        changes(18, "hear 1 4 0", 0, "person 1 0=162", "person 1 3=1", "many 6=85", "many 7=5", "many 10=3", "deed 4 3=2",
                "deed 4 4=1", "deed 4 5=0");
    }

    private static void ofDrops() {
        changes(19, "drop 0 0 202", 202, "person 0 0=202", "person 0 5=1", "person 1 0=0");
        changes(19, "drop 2 0 1", 57, "person 1 0=201", "person 2 0=57", "person 2 5=3");
        changes(19, "drop 1 4 0", 202, "person 1 5=20");
    }

    private static void ofDeedsAndPeople() {
        changes(20, "commit 1 999 16", 5, "many 1=6", "many 7=53", "person 1 4=35", "deed 5 0=1", "deed 5 1=999",
                "deed 5 2=16", "deed 5 3=0", "deed 5 4=refused 8", "deed 5 5=refused 8");
        changes(21, "reopen 1", 1, "many 7=23", "person 2 5=0", "deed 1 3=0", "deed 1 4=refused 8", "deed 1 5=refused 8");
        changes(21, "reopen 3", 1, "many 7=29", "many 8=0", "deed 3 3=0", "deed 3 4=refused 8", "deed 3 5=refused 8");
        changes(22, "train 2 0", 1, "person 2 1=0");
        changes(22, "train 1 16", 1, "person 1 1=16");
        changes(23, "earn 0 -1", -1, "person 0 0=-1", "many 9=1");
        changes(23, "earn 2 9999", 10055, "person 2 0=10055");
        changes(23, "earn 1 0", 202);
    }

    private static void ofRules() {
        changes(24, "rule 0 9", 1, "many 2=9");
        changes(24, "rule 1 9", 1, "many 3=9");
        changes(24, "rule 2 0", 1, "many 4=0");
        changes(24, "rule 3 16", 1, "many 5=16");
        changes(24, "rule 3 8", 1);
    }

    private static void ofYears() {
        changes(51, "live 7", 4, "person 1 0=205", "lived 0=2", "lived 1=0", "lived 2=0");
        changes(53, "mean 7 2", 1, "top=45", "bottom=1");
        changes(52, "lived 0", 1);
    }

    private static void ofMarks() {
        changes(54, "mark", 3, "back 1=0 2 many 5 45 21 coins 56 steps 4", "back 2=0 1 many 5 45 21 coins 36 steps 4",
                "back 3=0 0 many 4 0 15 coins 30 steps 4");
        changes(55, "back", 1, "person 2 0=36", "back 1=0 0 many 4 0 15 coins 30 steps 4",
                "back 2=8 -1 many 4 5 7 coins 35 steps 4");
    }

    // Who only asks changes nothing, but the FRACTION where one is told.
    private static void ofQuestions() {
        changes(7, "read 0 1", 77);
        changes(13, "many 6", 45);
        changes(14, "person 1 4", 3);
        changes(15, "deed 1 3", 2);
        changes(25, "can 0 0", 1);
        changes(26, "chance 0 0", 12);
        changes(27, "votes 0 0 1", 1, "top=9", "bottom=64");
        changes(28, "wins 0 0", 1, "top=27", "bottom=32");
        changes(29, "owes 0 0", 1, "top=1", "bottom=64");
        changes(30, "gain 0 4", 1, "top=-43373", "bottom=2048");
        changes(31, "loss 0 4", 1, "top=1323", "bottom=2048");
        changes(32, "best 0", 2);
        changes(33, "plan 0 2", 1, "top=1785");
        changes(34, "accuser 0", 2);
        changes(35, "dreaded 1", 0);
        changes(36, "dread 2", 1, "top=150", "bottom=1");
        changes(37, "friend 0", 0);
        changes(38, "quiet", 16);
        changes(39, "trade 0 0 0", 42);
        changes(39, "trade 0 0 1", 84);
        changes(40, "leastShare 0", 1);
        changes(41, "leastFine 0", 2);
        changes(42, "mostPenalty 2", 599);
        changes(43, "gladBy 8 700", 1);
        changes(44, "game 0 1 2", 1, "top=2015");
        changes(45, "moveOf 0 1 2", 0);
        changes(46, "club 7", 4);
        changes(47, "clubPart 7", 1, "top=250", "bottom=3");
        changes(48, "gained 0 30", 2);
        changes(49, "sure 0 233", 23);
        changes(50, "bound 0 0", 233);
        changes(50, "bound 0 1", -160);
    }

    private static void question(Story s, Map<String, String> answers, String name, long... a) {
        tell(s, answers, name, a);
        if (Plain.BOOLEANS.contains(name) && s.status() == 0) {
            answers.put(name + " of " + a[0] + ", " + a[a.length - 1], s.top() + "/" + s.bottom());
        }
    }

    private static Map<String, String> questions(Story s) {
        Map<String, String> answers = new LinkedHashMap<>();
        for (int i = 0; i < 12; i++) {
            question(s, answers, "gain", i / 4, i % 4);
            question(s, answers, "chance", i / 4, i % 4);
        }
        for (int p = 0; p < 3; p++) {
            question(s, answers, "best", p);
            question(s, answers, "plan", p, 9);
            question(s, answers, "dread", p);
            question(s, answers, "dreaded", p);
            question(s, answers, "game", p, (p + 1) % 3, 3);
            question(s, answers, "moveOf", p, (p + 1) % 3, 3);
            question(s, answers, "bound", p, 0);
            question(s, answers, "gained", p, -40);
        }
        for (int d = 0; d < 4; d++) {
            question(s, answers, "accuser", d);
            question(s, answers, "friend", d);
            question(s, answers, "leastFine", d);
        }
        question(s, answers, "quiet");
        question(s, answers, "gladBy", 8, 40);
        question(s, answers, "club", 7);
        question(s, answers, "clubPart", 7);
        question(s, answers, "mean", 3, 3);
        return answers;
    }

    private static void doIt(Story s, String call) {
        String[] parts = call.split(" ");
        s.call(parts[0], numbers(parts));
    }

    private static long[] numbers(String[] parts) {
        long[] a = new long[parts.length - 1];
        for (int i = 0; i < a.length; i++) {
            a[i] = Long.parseLong(parts[i + 1]);
        }
        return a;
    }

    // What was asked ahead of a call is asked anew behind it: all is told as it is then.
    private static void askedAhead() {
        String[] calls = {"charge 0 0 2", "charge 0 0 0", "hear 0 0 0", "hear 1 4 0", "drop 0 0 9", "commit 1 999 16",
            "reopen 1", "reopen 3", "train 2 0", "train 0 0", "train 1 4", "earn 0 -1", "earn 2 -57", "rule 0 4", "rule 1 0",
            "rule 2 1", "rule 3 16", "city 0", "years 0", "live 7", "mark", "back"};
        for (String call : calls) {
            askedAhead("", call);
        }
        askedAhead("reopen 3", "live 7");
        askedAhead("back", "back");
    }

    private static void askedAhead(String first, String call) {
        Story asked = lived(true);
        Story other = lived(false);
        if (!first.isEmpty()) {
            doIt(asked, first);
            doIt(other, first);
        }
        questions(asked);
        doIt(asked, call);
        doIt(other, call);
        Check.promise(32);
        compare("asked ahead of " + call, questions(asked), questions(other));
    }
}
