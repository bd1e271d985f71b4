import java.util.ArrayList;
import java.util.Arrays;
import java.util.List;
import java.util.Random;

/** Runs of calls by draws, each answer compared with the plain model's. */
public final class RandomTests {
    private static final int RUNS = 8000;
    private static final int MOST_CALLS = 512;
    private static final String[] WORDS = {"jurors", "fifth", "penalty", "share", "person", "coins", "skill", "deed",
        "of", "fine", "odds", "charge", "drop", "for", "earn", "any", "when", "open", "ruined", "loop", "end", "stop",
        "ann", "bob", "a", "zz", "abcdefgh", "abcdefghi", ";", ";", "<", ">", "=", "0", "1", "9", "16", "17", "99",
        "100", "999", "1000", "9999", "00012", "0012", "!", "A", "\u00e9", "\t"};
    private final Random random;
    private final HalfAccuser x = new HalfAccuser();
    private final Plain plain = new Plain();
    private final StringBuilder story = new StringBuilder();
    private boolean unlike;
    private int made;

    private RandomTests(long seed) {
        random = new Random(seed);
    }

    public static void main(String[] args) {
        int runs = args.length > 0 ? Integer.parseInt(args[0]) : RUNS;
        for (int seed = 0; seed < runs && !Check.isBroken(); seed++) {
            new RandomTests(seed).run(seed);
        }
        Check.end("RandomTests");
    }

    private void run(int seed) {
        for (int turn = 0; turn < MOST_CALLS && !unlike && !isFull(); turn++) {
            if (turn == 0 || random.nextInt(60) == 0) {
                city(turn == 0 && pick(8) > 0);
            } else if (random.nextInt(20) == 0 && (plain.w.people.size() > 0 || pick(4) == 0)) {
                years();
            } else {
                callAny();
            }
        }
        if (unlike) {
            System.out.println("run " + seed + ":\n" + story);
        }
    }

    // A call, its STATUS and the FRACTION's two numbers are four: what is behind the 512th is free.
    private boolean isFull() {
        return made + 4 > MOST_CALLS;
    }

    private void both(String name, long... a) {
        if (isFull()) {
            return;
        }
        long got = Calls.call(x, name, a);
        long due = plain.call(name, a);
        made++;
        String shown = name + Arrays.toString(a);
        story.append("  ").append(shown).append(" -> ").append(got).append('\n');
        check(shown, got, due);
        if (!Plain.SILENT.contains(name) || pick(6) == 0) {
            made++;
            check(shown + ": status", x.status(), plain.status);
        }
        if (Plain.BOOLEANS.contains(name) || pick(6) == 0) {
            made += 2;
            check(shown + ": top", x.top(), plain.top.longValueExact());
            check(shown + ": bottom", x.bottom(), plain.bottom.longValueExact());
        }
    }

    private void check(String what, long got, long due) {
        unlike |= got != due;
        Check.same(what, got, due);
    }

    private int pick(int n) {
        return random.nextInt(n);
    }

    private long number(int most) {
        int kind = pick(12);
        if (kind == 0) {
            return -1 - pick(3);
        }
        if (kind == 1) {
            return most + pick(4);
        }
        if (kind == 2 && pick(4) == 0) {
            return new long[] {Integer.MIN_VALUE, Integer.MAX_VALUE, 1 << 30, -(1 << 30), 65536}[pick(5)];
        }
        return pick(most + 1);
    }

    private int people() {
        return Math.max(1, plain.w.people.size());
    }

    private int deeds() {
        return Math.max(1, plain.w.deeds.size());
    }

    private long who() {
        return pick(12) == 0 ? number(people()) : pick(people());
    }

    private long what() {
        return pick(12) == 0 ? number(deeds()) : pick(deeds());
    }

    private void callAny() {
        int which = pick(Calls.NAMES.length);
        String name = Calls.NAMES[which];
        if (name.equals("city") || name.equals("years") || name.equals("feed") && pick(3) > 0) {
            return;
        }
        if ((name.equals("gained") || name.equals("sure")) && deeds() > 7 && pick(4) > 0) {
            return;
        }
        both(name, arguments(name, Calls.ARGUMENTS[which]));
        if (plain.status != 0 && pick(40) == 0) {
            seeAll();
        }
    }

    // What was refused must have changed nothing that can be seen.
    private void seeAll() {
        for (int i = 0; i < 11; i++) {
            both("many", i);
        }
        for (int p = 0; p < plain.w.people.size(); p++) {
            for (int what = 0; what < 6; what++) {
                both("person", p, what);
            }
        }
        for (int d = 0; d < plain.w.deeds.size(); d++) {
            for (int what = 0; what < 6; what++) {
                both("deed", d, what);
            }
        }
        for (int tray = 0; tray < 4; tray++) {
            for (int i = 0; plain.trays[tray] != null && i < plain.trays[tray].length; i++) {
                both("read", tray, i);
            }
        }
        for (int what = 0; what < 5; what++) {
            both("lived", what);
        }
        both("fault", 0);
        both("fault", 1);
        both("mean", 77, 1);
    }

    private long[] arguments(String name, int many) {
        switch (name) {
            case "tray": return new long[] {number(3), number(3), number(pick(3) == 0 ? 60 : 8)};
            case "write": return new long[] {number(3), number(8), random.nextLong() >> pick(64)};
            case "read": return new long[] {number(3), number(8)};
            case "pour": return new long[] {number(3), number(5), number(3), number(5), number(5)};
            case "feed": return new long[] {random.nextInt(), random.nextInt(), 0, 1, 2};
            case "fault": return new long[] {number(2)};
            case "many": return new long[] {number(11)};
            case "person": return new long[] {who(), number(6)};
            case "deed": return new long[] {what(), number(6)};
            case "copyCoins": return new long[] {number(3)};
            case "charge": return new long[] {who(), what(), number(plain.w.rules[0])};
            case "hear": return new long[] {who(), what(), number(9999)};
            case "drop": return new long[] {who(), what(), number(pick(3) == 0 ? 9999 : 50)};
            case "commit": return new long[] {who(), number(999), number(16)};
            case "train": return new long[] {who(), number(16)};
            case "earn": return new long[] {who(), pick(3) == 0 ? number(9999) : number(200) - 70};
            case "rule": return rule();
            case "votes": return new long[] {who(), what(), number(plain.w.rules[0])};
            case "plan": return new long[] {who(), number(10)};
            case "trade": return new long[] {who(), what(), number(1)};
            case "gladBy": return new long[] {number(16), number(999)};
            case "game":
            case "moveOf": return new long[] {who(), who(), number(3)};
            case "club":
            case "clubPart": return new long[] {number((1 << plain.w.people.size()) - 1)};
            case "gained":
            case "sure": return new long[] {who(), much()};
            case "bound": return new long[] {who(), number(1)};
            case "live": return new long[] {number(9999)};
            case "lived": return new long[] {number(4)};
            case "mean": return new long[] {number(9999), number(pick(3) == 0 ? 20 : 3)};
            case "leastShare":
            case "leastFine":
            case "mostPenalty":
            case "accuser":
            case "friend":
            case "reopen": return new long[] {what()};
            case "best":
            case "dread":
            case "dreaded": return new long[] {who()};
            default:
                return many == 2 ? new long[] {who(), what()} : new long[many];
        }
    }

    private long[] rule() {
        int what = pick(4);
        return new long[] {pick(8) == 0 ? number(3) : what, number(Plain.RULE_MOST[what])};
    }

    // Mostly a sum that some charges make.
    private long much() {
        if (pick(8) == 0) {
            return number(9999) * (pick(2) * 2 - 1);
        }
        long sum = 0;
        for (Plain.Deed d : plain.w.deeds) {
            int kind = pick(3);
            sum += kind == 0 ? 0 : kind == 1 ? d.fine * plain.w.rules[3] / 16 : -plain.w.rules[2];
        }
        return sum;
    }

    private void city(boolean whole) {
        List<String> tokens = new ArrayList<>();
        for (int r = 0; r < 4; r++) {
            if (pick(2) == 0) {
                add(tokens, Plain.RULES.get(r), "" + (Plain.RULE_LEAST[r]
                        + pick(Plain.RULE_MOST[r] - Plain.RULE_LEAST[r] + 1)), ";");
            }
        }
        int people = !whole && pick(10) == 0 ? pick(10) : 2 + pick(5);
        for (int p = 0; p < people; p++) {
            add(tokens, "person", "p" + (char) ('a' + p));
            if (pick(3) > 0) {
                add(tokens, "coins", "" + (pick(4) == 0 ? pick(10000) : pick(300)));
            }
            if (pick(2) > 0) {
                add(tokens, "skill", "" + pick(17));
            }
            add(tokens, ";");
        }
        int deeds = people == 0 ? 0 : !whole && pick(10) == 0 ? pick(12) : 1 + pick(8);
        for (int d = 0; d < deeds; d++) {
            add(tokens, "deed", "d" + (char) ('a' + d), "of", "p" + (char) ('a' + pick(people)), "fine",
                    "" + (1 + pick(pick(3) == 0 ? 5 : 999)), "odds", "" + pick(17), ";");
        }
        send(tokens, true, !whole && pick(3) == 0);
    }

    private static void add(List<String> tokens, String... more) {
        for (String token : more) {
            tokens.add(token);
        }
    }

    private String personName() {
        return "p" + (char) ('a' + pick(Math.max(1, plain.w.people.size())));
    }

    private String deedName() {
        return "d" + (char) ('a' + pick(Math.max(1, plain.w.deeds.size())));
    }

    private void years() {
        List<String> tokens = new ArrayList<>();
        int most = 1 + pick(12);
        int depth = 0;
        for (int i = 0; i < most; i++) {
            int kind = pick(11);
            if (kind < 3) {
                add(tokens, "charge", personName(), deedName(), ";");
            } else if (kind == 3) {
                add(tokens, "drop", personName(), deedName(), "for", "" + pick(100), ";");
            } else if (kind == 4) {
                add(tokens, "earn", personName(), "" + (1 + pick(999)), ";");
            } else if (kind < 7) {
                add(tokens, "any", ";");
            } else if (kind < 9 && depth < 3) {
                depth++;
                if (pick(2) == 0) {
                    add(tokens, "loop", "" + (1 + pick(pick(3) == 0 ? 99 : 5)), ";");
                } else if (pick(3) == 0) {
                    add(tokens, "when", "open", deedName(), ";");
                } else if (pick(2) == 0) {
                    add(tokens, "when", "ruined", personName(), ";");
                } else {
                    add(tokens, "when", "coins", personName(), "" + "<>=".charAt(pick(3)), "" + pick(200), ";");
                }
            } else if (kind == 9 && depth > 0) {
                depth--;
                add(tokens, "end", ";");
            } else if (kind == 10 && pick(4) == 0) {
                add(tokens, "stop", ";");
            }
        }
        for (; depth > 0; depth--) {
            add(tokens, "end", ";");
        }
        send(tokens, false, pick(3) == 0);
    }

    private void send(List<String> tokens, boolean city, boolean spoilt) {
        if (spoilt && pick(6) > 0) {
            spoil(tokens);
        }
        StringBuilder text = new StringBuilder();
        for (String token : tokens) {
            int last = text.length() == 0 ? ';' : text.charAt(text.length() - 1);
            int least = !spoilt && Character.isLetterOrDigit(last) && Character.isLetterOrDigit(token.charAt(0)) ? 1 : 0;
            int blanks = pick(6) == 0 ? Math.max(least, pick(3)) : least;
            for (int i = 0; i < blanks; i++) {
                text.append(pick(4) == 0 ? '\n' : ' ');
            }
            text.append(token);
        }
        // What a refused call left on the tape would stand ahead of the text.
        both("city", -1);
        if (plain.tape.length() > 0) {
            both("years", 0);
        }
        String all = text.toString();
        int n = Math.min(900, all.length());
        for (int i = 0; i < n; i += 20) {
            long[] five = new long[5];
            for (int k = 0; k < 20; k++) {
                int c = i + k < n ? all.charAt(i + k) : ' ';
                five[k / 4] = (int) (five[k / 4] << 8 | c & 255);
            }
            both("feed", five);
        }
        story.append(all).append('\n');
        both(city ? "city" : "years", spoilt && pick(5) == 0 ? pick(n + 1) : n);
        both("fault", 0);
        both("fault", 1);
    }

    private void spoil(List<String> tokens) {
        for (int i = pick(3); i >= 0; i--) {
            int place = pick(tokens.size() + 1);
            if (pick(2) == 0 || place == tokens.size()) {
                tokens.add(place, WORDS[pick(WORDS.length)]);
            } else if (pick(2) == 0) {
                tokens.set(place, WORDS[pick(WORDS.length)]);
            } else {
                tokens.remove(place);
            }
        }
    }
}
