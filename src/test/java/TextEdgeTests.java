/** The edges that promises 9 to 12 name, and CITY, YEARS and FAULTS as the Terms tell them. */
public final class TextEdgeTests extends Trial {
    private static final String[] RESERVED = {"jurors", "fifth", "penalty", "share", "person", "coins", "skill", "deed",
        "of", "fine", "odds", "charge", "drop", "for", "earn", "any", "when", "open", "ruined", "loop", "end", "stop"};
    // A city and years with every kind of PART and STEP, token by token.
    private static final String CITY = "jurors 3 ; fifth 1 ; penalty 40 ; share 8 ; person a ; person b coins 50 ; "
            + "person c skill 4 ; person d coins 7 skill 5 ; deed l of a fine 100 odds 8 ;";
    private static final String YEARS = "charge a l ; drop a l for 5 ; earn a 5 ; any ; loop 2 ; when open l ; "
            + "when ruined a ; end ; end ; end ; when coins a < 5 ; end ; when coins a > 5 ; end ; "
            + "when coins a = 5 ; end ; stop ;";
    private static final String SMALL = "person a;deed l of a fine 1 odds 0;";

    private TextEdgeTests() {
    }

    public static void main(String[] args) {
        feeding();
        lengthsOfCities();
        lengthsOfYears();
        bytes();
        asLongAsTheyGo();
        cutOff();
        tokensThatCannotStand();
        otherKindsOfTokens();
        names();
        namesTaken();
        namesToldAhead();
        cityNumbers();
        cityWithout();
        toldAlready();
        mostPeopleAndDeeds();
        firstAlongTheText();
        yearsNames();
        yearsNumbers();
        mostSteps();
        deepest();
        ends();
        whatFaultTells();
        takenCity();
        cityBehindMean();
        fewerThanAhead();
        takenYears();
        Check.end("TextEdgeTests");
    }

    private static void isCity(String text, int deeds) {
        fresh();
        due(10, deeds, "city", story.feed(text));
        due(12, 0, "fault", 0);
        due(12, -1, "fault", 1);
    }

    private static void noCity(String text, int kind, int place) {
        fresh();
        faulty(10, "city", text, kind, place);
    }

    private static void isYears(String text, int steps) {
        fresh(SMALL);
        due(11, steps, "years", story.feed(text));
        due(12, 0, "fault", 0);
        due(12, -1, "fault", 1);
    }

    private static void noYears(String text, int kind, int place) {
        fresh(SMALL);
        faulty(11, "years", text, kind, place);
    }

    // Promise 9: "NONE if there would be more than 900"; feed() has no STATUS.
    private static void feeding() {
        fresh();
        long blanks = 0x20202020;
        for (int i = 1; i < 45; i++) {
            due(9, 20 * i, "feed", blanks, blanks, blanks, blanks, blanks);
        }
        due(9, 900, "feed", blanks, blanks, blanks, blanks, 0x2020203f);
        due(9, -1, "feed", 0, 0, 0, 0, 0);
        due(9, -1, "feed", blanks, blanks, blanks, blanks, blanks);
        Check.same("status behind feed", story.status(), 0);
        refused(9, 5, "many", 11);
        due(9, -1, "feed", 0, 0, 0, 0, 0);
        Check.same("status behind feed", story.status(), 5);
        Check.same("city", story.call("city", 900), -1);
        due(9, 899, "fault", 1);
        due(9, 20, "feed", 0, 0, 0, 0, 0);
        Check.same("status behind feed", story.status(), 10);
        // "the highest of each int first": the sign that is none stands at 0, 1, .. 19.
        for (int place = 0; place < 20; place++) {
            fresh();
            long[] five = {blanks, blanks, blanks, blanks, blanks};
            five[place / 4] ^= (0x20L ^ 0xff) << 8 * (3 - place % 4);
            due(9, 20, "feed", (int) five[0], (int) five[1], (int) five[2], (int) five[3], (int) five[4]);
            refused(9, 10, "city", 20);
            due(9, place, "fault", 1);
        }
    }

    // Promise 10: "The first n bytes of the tape (which is empty then, but for 5)"
    private static void lengthsOfCities() {
        fresh();
        refused(10, 5, "city", 1);
        due(10, 0, "city", 0);
        story.feed("jurors 7;?");
        for (int n : new int[] {-1, 21, LEAST, MOST}) {
            refused(10, 5, "city", n);
        }
        due(9, 40, "feed", 0, 0, 0, 0, 0);
        due(10, 0, "city", 9);
        due(10, 7, "many", 2);
        due(9, 20, "feed", 0, 0, 0, 0, 0);
        due(10, 0, "city", 0);
        due(9, 20, "feed", 0, 0, 0, 0, 0);
        refused(10, 5, "city", 21);
        due(9, 40, "feed", 0, 0, 0, 0, 0);
        fresh();
        story.feed("jurors 7;?");
        refused(10, 10, "city", 10);
        due(9, 20, "feed", 0, 0, 0, 0, 0);
        fresh();
        story.feed("jurors 7;?");
        refused(10, 10, "city", 20);
        fresh();
        story.feed("jurors 7;          ?");
        due(10, 0, "city", 19);
        fresh();
        story.feed("jurors 7;          ?");
        refused(10, 10, "city", 20);
        due(10, 19, "fault", 1);
        fresh();
        refused(10, 5, "city", 901);
        due(10, 0, "city", story.feed(filled(900)));
        fresh();
        story.feed(filled(900));
        refused(10, 5, "city", 901);
    }

    private static String filled(int length) {
        return times(" ", length);
    }

    // Promise 11: "Likewise the YEARS .. (5: above 300, too; 10)"
    private static void lengthsOfYears() {
        fresh();
        refused(11, 5, "years", 1);
        refused(11, 5, "years", 301);
        due(11, 0, "years", 0);
        story.feed(filled(299) + "?");
        refused(11, 10, "years", 300);
        due(11, 299, "fault", 1);
        story.feed(filled(299) + "?");
        due(11, 0, "years", 299);
        due(9, 20, "feed", 0, 0, 0, 0, 0);
        due(11, 0, "years", 0);
        story.feed(filled(320));
        refused(11, 5, "years", 301);
        refused(11, 5, "years", 320);
        refused(11, 5, "years", -1);
        refused(11, 5, "years", LEAST);
        refused(11, 5, "years", MOST);
        due(9, 340, "feed", 0, 0, 0, 0, 0);
        due(11, 0, "years", 300);
        story.feed(filled(20));
        refused(11, 5, "years", 21);
        due(11, 0, "years", 20);
    }

    // "between them blanks (10, 32): WORDS (small letters), NUMBERS .., SIGNS ; < > ="; 1: no TOKEN begins so
    private static void bytes() {
        for (int c = 0; c < 256; c++) {
            String one = "" + (char) c;
            if (c == 10 || c == 32) {
                isCity(one, 0);
                isCity(one + "jurors" + one + "7" + one + ";" + one, 0);
                isYears(one + "any" + one + one + ";" + one, 1);
            } else {
                boolean begins = c >= 'a' && c <= 'z' || c >= '0' && c <= '9' || c == ';' || c >= '<' && c <= '>';
                noCity(one, begins ? 2 : 1, 0);
                noCity("jurors 7;" + one, begins ? 2 : 1, 9);
                noYears(one, begins ? 2 : 1, 0);
            }
        }
    }

    // "TOKENS, as long as they go"; "1 no TOKEN begins so (a NUMBER of 5 digits and more: at its first)"
    private static void asLongAsTheyGo() {
        isCity("jurors7;fifth0;penalty999;share16;person a coins0skill16;deed l of a fine1odds0;", 1);
        isCity("jurors\n7\n;\n", 0);
        isCity("jurors 0007;", 0);
        isCity("person personx;person xperson;", 0);
        noCity("jurorsx 7;", 2, 0);
        noCity("ju rors 7;", 2, 0);
        noCity("jurors 00007;", 1, 7);
        noCity("jurors 12345;", 1, 7);
        noCity("jurors 1234567890;", 1, 7);
        noCity("jurors12345;", 1, 6);
        noCity("jurors 7 7;", 2, 9);
        noCity("jurors 1 2345;", 2, 9);
        noCity("00000", 1, 0);
        noCity("0000", 2, 0);
        noCity("person a12345;", 1, 8);
        noCity("person a1;", 2, 8);
        noCity("person a;;", 2, 9);
        noCity("person aB;", 1, 8);
        noCity("person a-b;", 1, 8);
        noCity("jurors -7;", 1, 7);
        fresh();
        story.feed("jurors 7777;");
        refused(10, 10, "city", 11);
        due(12, 4, "fault", 0);
        fresh();
        story.feed("jurors 77777;");
        refused(10, 10, "city", 11);
        due(12, 4, "fault", 0);
        fresh();
        story.feed("jurors 77777;");
        refused(10, 10, "city", 12);
        due(12, 1, "fault", 0);
    }

    private static String prefixFault(String text, int n, boolean mayEnd) {
        String start = text.substring(0, n).trim();
        if (start.isEmpty() || start.endsWith(";") && mayEnd) {
            return "";
        }
        boolean cut = n < text.length() && Character.isLetter(text.charAt(n - 1)) && Character.isLetter(text.charAt(n));
        int place = n;
        while (cut && place > 0 && Character.isLetter(text.charAt(place - 1))) {
            place--;
        }
        return "2 at " + place;
    }

    private static void prefix(String name, String text, int n, boolean mayEnd) {
        String due = prefixFault(text, n, mayEnd);
        story.feed(text);
        story.call(name, n);
        int kind = story.fault(0);
        String got = kind == 0 ? "" : kind + " at " + story.fault(1);
        Check.that(name + " of " + text.substring(0, n) + ": " + got + ", due is " + due, got.equals(due));
    }

    private static int depthOf(String text) {
        int depth = 0;
        for (String token : text.split(" ")) {
            depth += token.equals("loop") || token.equals("when") ? 1 : token.equals("end") ? -1 : 0;
        }
        return depth;
    }

    // "2 it can't stand there (the end: the text's length)": each text, cut off at each of its bytes
    private static void cutOff() {
        Check.promise(10);
        for (int n = 0; n <= CITY.length(); n++) {
            fresh();
            prefix("city", CITY, n, true);
        }
        Check.promise(11);
        for (int n = 0; n <= YEARS.length(); n++) {
            fresh(SMALL);
            prefix("years", YEARS, n, depthOf(YEARS.substring(0, n)) == 0);
        }
        noCity("jurors", 2, 6);
        noCity("jurors  \n", 2, 9);
        noYears("loop 1;any;", 2, 11);
        noYears("loop 1;any; \n", 2, 13);
        fresh();
        story.feed("jurors 3;share 8;");
        refused(10, 10, "city", 8);
        due(12, 2, "fault", 0);
        due(12, 8, "fault", 1);
    }

    private static String with(String[] tokens, int i, String other) {
        String[] all = tokens.clone();
        all[i] = other;
        return String.join(" ", all);
    }

    // At each TOKEN's place what is none (1), what can't stand there (2).
    private static void tokensThatCannotStand() {
        String[] city = CITY.split(" ");
        String[] years = YEARS.split(" ");
        int place = 0;
        for (int i = 0; i < city.length; i++) {
            boolean number = Character.isDigit(city[i].charAt(0));
            noCity(with(city, i, "?"), 1, place);
            noCity(with(city, i, "00000"), 1, place);
            noCity(with(city, i, "<"), 2, place);
            noCity(with(city, i, "end"), 2, place);
            noCity(with(city, i, "abcdefghi"), 2, place);
            noCity(with(city, i, number ? "z" : "0000"), 2, place);
            place += city[i].length() + 1;
        }
        place = 0;
        for (int i = 0; i < years.length; i++) {
            char first = years[i].charAt(0);
            noYears(with(years, i, "?"), 1, place);
            noYears(with(years, i, "00000"), 1, place);
            noYears(with(years, i, "person"), 2, place);
            noYears(with(years, i, "abcdefghi"), 2, place);
            noYears(with(years, i, Character.isDigit(first) ? "z" : "0000"), 2, place);
            noYears(with(years, i, first >= '<' && first <= '>' ? ";" : "<"), 2, place);
            place += years[i].length() + 1;
        }
        noYears("jurors 3;", 2, 0);
        noCity("any;", 2, 0);
        noCity("person a skill 1 coins 1;", 2, 17);
        noCity("person a coins 1 coins 1;", 2, 17);
        noCity("person a skill 1 skill 1;", 2, 17);
        noCity("deed l;", 2, 6);
    }

    private static void otherKinds(String name, String text, String[] reserved) {
        String[] tokens = text.split(" ");
        int place = 0;
        for (int i = 0; i < tokens.length; i++) {
            char first = tokens[i].charAt(0);
            boolean isName = first >= 'a' && first <= 'z' && !java.util.Arrays.asList(reserved).contains(tokens[i]);
            for (int v = 0; v <= 62 && !Character.isDigit(first); v++) {
                cannotStand(name, with(tokens, i, "" + v), place);
            }
            for (char c = 'a'; c <= 'z' && !isName; c++) {
                cannotStand(name, with(tokens, i, "" + c), place);
            }
            place += tokens[i].length() + 1;
        }
    }

    private static void cannotStand(String name, String text, int place) {
        if (name.equals("city")) {
            noCity(text, 2, place);
        } else {
            noYears(text, 2, place);
        }
    }

    // A NUMBER where a WORD or a SIGN must stand, a NAME where a NUMBER, a SIGN or another WORD must: 2
    private static void otherKindsOfTokens() {
        otherKinds("city", CITY, RESERVED);
        otherKinds("years", YEARS, RESERVED);
    }

    // "NAME: a WORD of 1 to 8 letters that is none of .."; "a WORD of 9 letters and more where a NAME must stand": 2
    private static void names() {
        for (int length = 1; length <= 8; length++) {
            String name = "zyxwvuts".substring(0, length);
            isCity("person " + name + ";deed a of " + name + " fine 1 odds 0;", 1);
            isCity("person b;deed " + name + " of b fine 1 odds 0;", 1);
        }
        for (String name : new String[] {"abcdefghi", "zzzzzzzzz", "personann", "abcdefghijklmnopqrstuvwxyz"}) {
            noCity("person " + name + ";", 2, 7);
            noCity("person a;deed " + name + " of a fine 1 odds 0;", 2, 14);
            noCity("person a;deed l of " + name + " fine 1 odds 0;", 2, 19);
            noYears("charge " + name + " l;", 2, 7);
        }
        for (String word : RESERVED) {
            noCity("person " + word + ";", 2, 7);
            noCity("person a;deed " + word + " of a fine 1 odds 0;", 2, 14);
            noCity("person a;deed l of " + word + " fine 1 odds 0;", 2, 19);
            noYears("earn " + word + " 1;", 2, 5);
            noYears("charge " + word + " l;", 2, 7);
            noYears("charge a " + word + ";", 2, 9);
            noYears("drop " + word + " l for 1;", 2, 5);
            noYears("drop a " + word + " for 1;", 2, 7);
            noYears("when open " + word + ";end;", 2, 10);
            noYears("when ruined " + word + ";end;", 2, 12);
            noYears("when coins " + word + " < 1;end;", 2, 11);
            for (String near : new String[] {word + "s", "s" + word, word.substring(0, word.length() - 1),
                word.substring(1)}) {
                isCity("person " + near + ";deed xx of " + near + " fine 1 odds 0;", 1);
            }
        }
    }

    // "One NAME is of one thing alone"; "3 a new NAME that is taken"
    private static void namesTaken() {
        noCity("person a;person a;", 3, 16);
        noCity("person a;deed a of a fine 1 odds 0;", 3, 14);
        noCity("person a;deed l of a fine 1 odds 0;deed l of a fine 1 odds 0;", 3, 40);
        noCity("person a;deed l of a fine 1 odds 0;person l;", 3, 42);
        noCity("person abcdefgh;person abcdefgh;", 3, 23);
        isCity("person abcdefgh;person abcdefgi;person bbcdefgh;person abcdefg;person bcdefgh;person aaaaaaaa;"
                + "person aaaaaaa;deed aaaaaa of aaaaaaa fine 1 odds 0;", 1);
        // A NAME that a refused text told is not taken.
        fresh();
        faulty(10, "city", "person a;?", 1, 9);
        due(10, 0, "city", 0);
        due(10, 0, "city", story.feed("person a;"));
        due(10, 0, "city", story.feed("person a;"));
        due(10, 1, "many", 0);
    }

    // "what a PART names must be told ahead"; "3 .. a NAME that is no such one told ahead"
    private static void namesToldAhead() {
        noCity("deed l of a fine 1 odds 0;person a;", 3, 10);
        noCity("person b;deed l of a fine 1 odds 0;person a;", 3, 19);
        noCity("person a;deed l of l fine 1 odds 0;", 3, 19);
        noCity("person a;deed l of a fine 1 odds 0;deed m of l fine 1 odds 0;", 3, 45);
        isCity("person b;person a;deed l of a fine 1 odds 0;deed m of b fine 1 odds 0;person c;", 2);
        due(13, 3, "many", 0);
        due(15, 1, "deed", 0, 0);
        due(15, 0, "deed", 1, 0);
        // The people of the CITY ahead are not told.
        fresh("person a;");
        faulty(10, "city", "deed l of a fine 1 odds 0;", 3, 10);
    }

    private static void cityNumber(String text, int least, int most, String name, long... a) {
        int place = text.indexOf('#');
        for (int v : new int[] {least, most}) {
            for (String told : new String[] {"" + v, ("000" + v).substring(("" + v).length() - 1)}) {
                fresh();
                due(10, text.contains("deed") ? 1 : 0, "city", story.feed(text.replace("#", told)));
                due(10, v, name, a);
            }
        }
        for (int v : new int[] {least - 1, most + 1, 9999}) {
            if (v >= 0 && (v < least || v > most)) {
                noCity(text.replace("#", "" + v), v > 9999 ? 1 : 4, place);
            }
        }
    }

    // "4 a NUMBER that can't be", on both sides of each.
    private static void cityNumbers() {
        cityNumber("jurors #;", 1, 9, "many", 2);
        cityNumber("fifth #;", 0, 9, "many", 3);
        cityNumber("penalty #;", 0, 999, "many", 4);
        cityNumber("share #;", 0, 16, "many", 5);
        cityNumber("person a coins #;", 0, 9999, "person", 0, 0);
        cityNumber("person a coins # skill 3;", 0, 9999, "person", 0, 0);
        cityNumber("person a skill #;", 0, 16, "person", 0, 1);
        cityNumber("person a coins 5 skill #;", 0, 16, "person", 0, 1);
        cityNumber("person a;deed l of a fine # odds 3;", 1, 999, "deed", 0, 1);
        cityNumber("person a;deed l of a fine 3 odds #;", 0, 16, "deed", 0, 2);
    }

    // "5 without", "1 without", "100 without", "8 without", "100 without", "0 without"
    private static void cityWithout() {
        String[] rules = {"jurors 2;", "fifth 2;", "penalty 2;", "share 2;"};
        int[] without = {5, 1, 100, 8};
        for (int left = 0; left < 4; left++) {
            StringBuilder text = new StringBuilder();
            for (int r = 3; r >= 0; r--) {
                text.append(r == left ? "" : rules[r]);
            }
            isCity(text.toString(), 0);
            for (int r = 0; r < 4; r++) {
                due(10, r == left ? without[r] : 2, "many", 2 + r);
            }
        }
        // What the CITY ahead told does not stay.
        fresh("jurors 2;fifth 2;penalty 2;share 2;person a coins 2 skill 2;");
        due(10, 0, "city", story.feed("person b;person c coins 3;person d skill 3;"));
        for (int r = 0; r < 4; r++) {
            due(10, without[r], "many", 2 + r);
        }
        long[][] people = {{100, 0}, {3, 0}, {100, 3}};
        for (int p = 0; p < 3; p++) {
            due(10, people[p][0], "person", p, 0);
            due(10, people[p][1], "person", p, 1);
        }
    }

    // "5 jurors, fifth, penalty, share told already (at that WORD)"
    private static void toldAlready() {
        for (String rule : new String[] {"jurors", "fifth", "penalty", "share"}) {
            String once = rule + " 1;";
            noCity(once + once, 5, once.length());
            noCity(once + rule, 5, once.length());
            noCity(once + rule + "?", 5, once.length());
            noCity(once + "person a;" + rule + " 9999;", 5, once.length() + 9);
            noCity(once + once + once, 5, once.length());
            for (String other : new String[] {"jurors 2;", "fifth 2;", "penalty 2;", "share 2;"}) {
                if (!other.startsWith(rule)) {
                    noCity(once + other + once, 5, once.length() + other.length());
                }
            }
        }
        isCity("share 1;penalty 1;fifth 1;jurors 1;", 0);
        // Told in the text ahead, or in a text that was refused, is not told already.
        fresh("jurors 1;fifth 1;penalty 1;share 1;");
        due(10, 0, "city", story.feed("jurors 1;fifth 1;penalty 1;share 1;"));
    }

    // "PEOPLE, at most 8", "DEEDS, at most 10"; "6 a ninth person, an 11th deed (at that WORD)"
    private static void mostPeopleAndDeeds() {
        String eight = times("person #;", 8);
        isCity(eight, 0);
        due(10, 8, "many", 0);
        noCity(eight + "person z;", 6, 72);
        noCity(eight + "person a;", 6, 72);
        noCity(eight + "person", 6, 72);
        noCity(eight + "person?", 6, 72);
        noCity(eight + "jurors 3;person z;", 6, 81);
        for (String no : new String[] {"z", ";", "7", "<", "loop", "abcdefghi", "persons"}) {
            noCity(eight + no, 2, 72);
        }
        String ten = times("deed l# of a fine 1 odds 0;", 10);
        isCity(eight + ten, 10);
        due(10, 10, "many", 1);
        int place = eight.length() + ten.length();
        noCity(eight + ten + "deed z of a fine 1 odds 0;", 6, place);
        noCity(eight + ten + "deed la of a fine 1 odds 0;", 6, place);
        noCity(eight + ten + "deed", 6, place);
        noCity(eight + ten + "deed z of zz", 6, place);
        noCity(eight + ten + "person z;", 6, place);
        noCity(ten, 3, 11);
        noCity("person a;" + ten + eight, 3, 9 + ten.length() + 7);
        isCity("person z;deed l of z fine 1 odds 0;" + times("person #;", 7), 1);
        noCity("person z;deed l of z fine 1 odds 0;" + eight, 6, 35 + 63);
    }

    // "FAULTS, the first along the text"
    private static void firstAlongTheText() {
        noCity("? jurors 10;", 1, 0);
        noCity("jurors 10;?", 4, 7);
        noCity("jurors 10 ?", 4, 7);
        noCity("jurors 3;jurors 10;?", 5, 9);
        noCity("person a;person a ?", 3, 16);
        noCity("person a person a;", 2, 9);
        noCity("person a;deed a of b fine 0 odds 17;", 3, 14);
        noCity("person a;deed l of b fine 0 odds 17;", 3, 19);
        noCity("person a;deed l of a fine 0 odds 17;", 4, 26);
        noCity("person a;deed l of a fine 1 odds 17 ?", 4, 33);
        noYears("earn b 0;?", 3, 5);
        noYears("earn a 0;?", 4, 7);
        noYears("loop 100;end;end;", 4, 5);
        noYears("end;?", 2, 0);
        noYears("charge b m;", 3, 7);
        noYears("charge a m ?", 3, 9);
        noYears("drop a l for ?", 1, 13);
    }

    // YEARS: "3 a NAME that is no such one (PEOPLE; a DEED behind charge's, drop's PERSON, open)"
    private static void yearsNames() {
        isYears("charge a l;drop a l for 1;earn a 1;when open l;end;when ruined a;end;when coins a=1;end;", 6);
        for (String no : new String[] {"l", "b", "aa"}) {
            noYears("charge " + no + " l;", 3, 7);
            noYears("drop " + no + " l for 1;", 3, 5);
            noYears("earn " + no + " 1;", 3, 5);
            noYears("when ruined " + no + ";end;", 3, 12);
            noYears("when coins " + no + "=1;end;", 3, 11);
        }
        for (String no : new String[] {"a", "m", "ll"}) {
            noYears("charge a " + no + ";", 3, 9);
            noYears("drop a " + no + " for 1;", 3, 7);
            noYears("when open " + no + ";end;", 3, 10);
        }
        // DEEDS that came by commit() have no NAME; PEOPLE of a CITY ahead are none.
        fresh(SMALL);
        due(20, 1, "commit", 0, 1, 0);
        due(11, 1, "years", story.feed("charge a l;"));
        due(10, 0, "city", story.feed("person b;"));
        faulty(11, "years", "earn a 1;", 3, 5);
        fresh();
        faulty(11, "years", "earn a 1;", 3, 5);
    }

    private static void yearsNumber(String text, int least, int most, int steps) {
        int place = text.indexOf('#');
        isYears(text.replace("#", "" + least), steps);
        isYears(text.replace("#", "" + most), steps);
        isYears(text.replace("#", ("000" + least).substring(("" + least).length() - 1)), steps);
        for (int v : new int[] {least - 1, most + 1, 9999}) {
            if (v >= 0 && (v < least || v > most)) {
                noYears(text.replace("#", "" + v), v > 9999 ? 1 : 4, place);
            }
        }
    }

    // "drop: for 0 to 9,999; earn: 1 to 999", "when coins: 0 to 9,999. loop n (1 to 99)"
    private static void yearsNumbers() {
        yearsNumber("drop a l for #;", 0, 9999, 1);
        yearsNumber("earn a #;", 1, 999, 1);
        yearsNumber("loop #;end;", 1, 99, 1);
        yearsNumber("when coins a<#;end;", 0, 9999, 1);
        yearsNumber("when coins a>#;end;", 0, 9999, 1);
        yearsNumber("when coins a=#;end;", 0, 9999, 1);
    }

    // "6 a 31st STEP (at its WORD; end is none)"
    private static void mostSteps() {
        isYears(times("any;", 30), 30);
        for (String more : new String[] {"any;", "stop;", "any", "earn b 0;", "earn?", "loop 1;", "when", "charge a l;",
            "drop a l for 1;"}) {
            noYears(times("any;", 30) + more, 6, 120);
        }
        noYears(times("any;", 30) + "?", 1, 120);
        for (String no : new String[] {"end;", "a", ";", "7", "<", "person", "abcdefghi", "anys"}) {
            noYears(times("any;", 30) + no, 2, 120);
        }
        noYears(times("any;", 29) + "loop 1;", 2, 123);
        isYears(times("loop 1;", 1) + times("any;", 29) + "end;", 30);
        noYears(times("loop 1;", 1) + times("any;", 30) + "end;", 6, 7 + 116);
        isYears(times("loop 1;end;", 25) + "any;any;any;any;any;", 30);
        noYears(times("loop 1;end;", 25) + "any;any;any;any;any;any;", 6, 275 + 20);
    }

    // "7 a when, loop within three others (at its WORD)"
    private static void deepest() {
        String[] begins = {"loop 1;", "when open l;", "when ruined a;", "when coins a<1;"};
        for (String begin : begins) {
            isYears("loop 1;when open l;" + begin + "end;end;" + begin + "end;end;" + begin + "end;", 5);
            noYears("loop 1;when open l;loop 1;" + begin + "end;end;end;end;", 7, 26);
            noYears("loop 1;when open l;loop 1;end;loop 1;" + begin, 7, 37);
            noYears("loop 1;when open l;loop 1;any;" + begin.substring(0, 4), 7, 30);
            noYears("loop 1;when open l;loop 1;" + begin.substring(0, 4) + "?", 7, 26);
            // Of one TOKEN the least kind: the 31st STEP, too deep as well.
            noYears(times("any;", 27) + "loop 1;loop 1;loop 1;" + begin, 6, 108 + 21);
            noYears(times("any;", 26) + "loop 1;loop 1;loop 1;" + begin, 7, 104 + 21);
        }
        isYears("loop 1;loop 1;loop 1;any;end;loop 1;end;end;end;", 5);
    }

    // "2 as above (an end without a beginning; the text's end ahead of an end: 2)"
    private static void ends() {
        noYears("end;", 2, 0);
        noYears("end", 2, 0);
        noYears("loop 1;end;end;", 2, 11);
        noYears("loop 1;end", 2, 10);
        noYears("loop 1;end end;", 2, 11);
        noYears("loop 1;", 2, 7);
        noYears("loop 1;loop 1;end;", 2, 18);
        noYears("loop 1;loop 1;end; ", 2, 19);
        isYears("loop 1;loop 1;end;end;", 2);
        isYears("", 0);
        isYears(" \n", 0);
    }

    private static void faults(int kind, int place) {
        due(12, kind, "fault", 0);
        due(12, place, "fault", 1);
        for (int what : new int[] {-1, 2, 3, LEAST, MOST}) {
            due(12, -1, "fault", what);
        }
    }

    // Promise 12: "Of the latest of these with STATUS 0 or 10 .. NONE for others, and ahead of any."
    private static void whatFaultTells() {
        fresh();
        faults(-1, -1);
        refused(12, 5, "city", 1);
        refused(12, 5, "years", -1);
        faults(-1, -1);
        refused(12, 10, "years", story.feed("any?"));
        faults(1, 3);
        refused(12, 5, "city", 1);
        refused(12, 5, "years", 301);
        faults(1, 3);
        refused(12, 10, "city", story.feed("jurors 10;"));
        faults(4, 7);
        Check.same("status behind fault", story.status(), 10);
        due(12, 0, "years", 0);
        faults(0, -1);
        refused(12, 10, "years", story.feed("end;"));
        faults(2, 0);
        due(12, 0, "city", 0);
        faults(0, -1);
        refused(12, 5, "years", 1);
        faults(0, -1);
        Check.same("status behind fault", story.status(), 5);
        due(12, 0, "many", 0);
        story.fault(7);
        Check.same("status behind fault", story.status(), 0);
    }

    // "A CITY that is taken is there in place of that ahead; all DEEDS are OPEN .."
    private static void takenCity() {
        String city = "jurors 1;person a;person b;deed l of b fine 50 odds 16;deed m of b fine 7 odds 0;"
                + "deed n of b fine 1 odds 0;";
        fresh(city);
        due(10, 1, "tray", 0, 0, 1);
        due(10, 1, "write", 0, 0, 6);
        due(10, 1, "years", story.feed("earn a 1;"));
        due(10, 1, "live", 0);
        due(10, 126, "charge", 0, 0, 1);
        due(10, 26, "charge", 0, 1, 0);
        due(10, 30, "drop", 0, 2, 4);
        due(10, -1, "earn", 1, -47);
        due(10, 1, "mark");
        fraction(10, 0, 1, "plan", 0, 0);
        due(10, 3, "city", story.feed(city));
        long[] facts = {2, 3, 1, 1, 100, 8, 0, 7, 0, 0, 0};
        for (int what = 0; what < 11; what++) {
            due(10, facts[what], "many", what);
        }
        for (int p = 0; p < 2; p++) {
            long[] person = {100, 0, 0, 0, 7 * p, 0};
            for (int what = 0; what < 6; what++) {
                due(10, person[what], "person", p, what);
            }
        }
        for (int d = 0; d < 3; d++) {
            due(10, 0, "deed", d, 3);
            refused(10, 8, "deed", d, 4);
            refused(10, 8, "deed", d, 5);
        }
        refused(10, 8, "live", 0);
        refused(10, 8, "mean", 0, 1);
        due(10, 0, "lived", 0);
        due(10, 6, "read", 0, 0);
        due(55, 0, "back");
        due(55, -1, "person", 1, 0);
        due(55, 1, "live", 0);
    }

    private static void asNew(int people, int deeds) {
        long[] facts = {people, deeds, 5, 1, 100, 8, 0, (1 << deeds) - 1, 0, 0, 0};
        for (int what = 0; what < 11; what++) {
            due(10, facts[what], "many", what);
        }
        for (int p = 0; p < people; p++) {
            long[] person = {100, 0, 0, 0, story.call("person", p, 4), 0};
            for (int what = 0; what < 6; what++) {
                due(10, person[what], "person", p, what);
            }
        }
        for (int d = 0; d < deeds; d++) {
            due(10, 0, "deed", d, 3);
        }
    }

    // What only a mean's YEARS would have made is not in the next CITY.
    private static void cityBehindMean() {
        String city = "person a;person b;person c;deed l of b fine 50 odds 16;deed m of c fine 600 odds 16;"
                + "deed n of a fine 1 odds 0;deed o of a fine 1 odds 0;";
        fresh(city);
        due(11, 5, "years", story.feed("drop b o for 5;charge a l;charge a m;charge b n;earn a 7;"));
        due(53, 1, "mean", 0, 1);
        due(10, 4, "city", story.feed(city));
        asNew(3, 4);
        due(11, 5, "years", story.feed("drop b o for 5;charge a l;charge a m;charge b n;earn a 7;"));
        due(53, 1, "mean", 0, 1);
        due(10, 1, "city", story.feed("person a;person b;deed l of b fine 1 odds 0;"));
        asNew(2, 1);
        due(20, 1, "commit", 0, 1, 1);
        due(20, 0, "deed", 1, 3);
        due(25, 1, "can", 1, 1);
    }

    // PEOPLE and DEEDS of a larger CITY ahead are in no answer.
    private static void fewerThanAhead() {
        fresh("jurors 1;fifth 0;penalty 0;share 16;person a;person b;person c;person d;deed l of b fine 9 odds 16;"
                + "deed m of b fine 9 odds 16;deed n of b fine 9 odds 16;deed o of a fine 9 odds 16;");
        due(38, 0, "quiet");
        fraction(33, 27, 1, "plan", 0, 10);
        fraction(44, 36 - 18, 1, "game", 0, 1, 3);
        due(10, 1, "city", story.feed("jurors 1;fifth 0;penalty 0;share 16;person a;person b;person c;"
                + "deed l of b fine 5 odds 8;"));
        fraction(33, 5, 2, "plan", 0, 10);
        fraction(44, 5, 1, "game", 0, 1, 3);
        due(45, 0, "moveOf", 0, 1, 3);
        due(10, 1, "city", story.feed("jurors 1;fifth 0;penalty 0;share 16;person a;person b;deed l of b fine 5 odds 8;"));
        due(34, 0, "accuser", 0);
        due(35, 0, "dreaded", 1);
        fraction(36, 5, 2, "dread", 1);
        due(19, 100, "drop", 0, 0, 0);
        refused(34, 8, "accuser", 0);
        refused(37, 8, "friend", 0);
        refused(40, 8, "leastShare", 0);
        refused(41, 8, "leastFine", 0);
        refused(42, 8, "mostPenalty", 0);
        refused(35, 8, "dreaded", 1);
        fraction(36, 0, 1, "dread", 1);
        due(38, 1, "quiet");
        due(43, 0, "gladBy", 16, 0);
        refused(32, 8, "best", 0);
        fraction(44, 0, 1, "game", 0, 1, 3);
        refused(45, 8, "moveOf", 0, 1, 3);
        due(48, 2, "gained", 0, 0);
        fraction(47, 0, 1, "clubPart", 3);
    }

    // YEARS that are taken are there in place of those ahead; the CITY stays.
    private static void takenYears() {
        fresh(SMALL);
        due(11, 2, "years", story.feed("earn a 1;loop 3;end;"));
        due(11, 1, "years", story.feed("earn a 5;"));
        due(11, 1, "live", 0);
        due(11, 105, "person", 0, 0);
        due(11, 0, "years", 0);
        due(11, 0, "live", 0);
        due(11, 105, "person", 0, 0);
        due(11, 1, "many", 1);
    }
}
