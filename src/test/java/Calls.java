import java.util.ArrayList;
import java.util.List;

/** Calls of the face by name, with a boolean as 1 or 0. */
final class Calls {
    static final String[] NAMES = {"status", "top", "bottom", "tray", "write", "read", "pour", "feed", "city", "years",
        "fault", "many", "person", "deed", "copyCoins", "charge", "hear", "drop", "commit", "reopen", "train", "earn",
        "rule", "can", "chance", "votes", "wins", "owes", "gain", "loss", "best", "plan", "accuser", "dreaded",
        "dread", "friend", "quiet", "trade", "leastShare", "leastFine", "mostPenalty", "gladBy", "game", "moveOf",
        "club", "clubPart", "gained", "sure", "bound", "live", "lived", "mean", "mark", "back"};
    static final int[] ARGUMENTS = {0, 0, 0, 3, 3, 2, 5, 5, 1, 1,
        1, 1, 2, 2, 1, 3, 3, 3, 3, 1, 2, 2,
        2, 2, 2, 3, 2, 2, 2, 2, 1, 2, 1, 1,
        1, 1, 0, 3, 1, 1, 1, 2, 3, 3,
        1, 1, 2, 2, 2, 1, 1, 2, 0, 0};

    private Calls() {
    }

    static long call(HalfAccuser x, String name, long... a) {
        int b = a.length > 0 ? (int) a[0] : 0;
        int c = a.length > 1 ? (int) a[1] : 0;
        int d = a.length > 2 ? (int) a[2] : 0;
        switch (name) {
            case "status": return x.status();
            case "top": return x.top();
            case "bottom": return x.bottom();
            case "tray": return bit(x.tray(b, c, d));
            case "write": return bit(x.write(b, c, a[2]));
            case "read": return x.read(b, c);
            case "pour": return bit(x.pour(b, c, d, (int) a[3], (int) a[4]));
            case "feed": return x.feed(b, c, d, (int) a[3], (int) a[4]);
            case "city": return x.city(b);
            case "years": return x.years(b);
            case "fault": return x.fault(b);
            case "many": return x.many(b);
            case "person": return x.person(b, c);
            case "deed": return x.deed(b, c);
            case "copyCoins": return x.copyCoins(b);
            case "charge": return x.charge(b, c, d);
            case "hear": return x.hear(b, c, d);
            case "drop": return x.drop(b, c, d);
            case "commit": return x.commit(b, c, d);
            case "reopen": return bit(x.reopen(b));
            case "train": return bit(x.train(b, c));
            case "earn": return x.earn(b, c);
            case "rule": return bit(x.rule(b, c));
            default: return ask(x, name, b, c, d);
        }
    }

    private static long ask(HalfAccuser x, String name, int b, int c, int d) {
        switch (name) {
            case "can": return x.can(b, c);
            case "chance": return x.chance(b, c);
            case "votes": return bit(x.votes(b, c, d));
            case "wins": return bit(x.wins(b, c));
            case "owes": return bit(x.owes(b, c));
            case "gain": return bit(x.gain(b, c));
            case "loss": return bit(x.loss(b, c));
            case "best": return x.best(b);
            case "plan": return bit(x.plan(b, c));
            case "accuser": return x.accuser(b);
            case "dreaded": return x.dreaded(b);
            case "dread": return bit(x.dread(b));
            case "friend": return x.friend(b);
            case "quiet": return x.quiet();
            case "trade": return x.trade(b, c, d);
            case "leastShare": return x.leastShare(b);
            case "leastFine": return x.leastFine(b);
            case "mostPenalty": return x.mostPenalty(b);
            case "gladBy": return x.gladBy(b, c);
            case "game": return bit(x.game(b, c, d));
            case "moveOf": return x.moveOf(b, c, d);
            case "club": return x.club(b);
            case "clubPart": return bit(x.clubPart(b));
            case "gained": return x.gained(b, c);
            case "sure": return x.sure(b, c);
            case "bound": return x.bound(b, c);
            case "live": return x.live(b);
            case "lived": return x.lived(b);
            case "mean": return bit(x.mean(b, c));
            case "mark": return x.mark();
            case "back": return x.back();
            default: throw new IllegalStateException(name);
        }
    }

    private static long bit(boolean b) {
        return b ? 1 : 0;
    }

    /** A text, filled with blanks, as the arguments by which it is fed. */
    static List<long[]> fives(String text) {
        List<long[]> all = new ArrayList<>();
        for (int i = 0; i < text.length(); i += 20) {
            long[] five = new long[5];
            for (int k = 0; k < 20; k++) {
                int c = i + k < text.length() ? text.charAt(i + k) : ' ';
                five[k / 4] = (int) (five[k / 4] << 8 | c & 255);
            }
            all.add(five);
        }
        return all;
    }

    /** Feeds a text; its length. */
    static int feed(HalfAccuser x, String text) {
        for (long[] five : fives(text)) {
            call(x, "feed", five);
        }
        return text.length();
    }

    static int city(HalfAccuser x, String text) {
        return x.city(feed(x, text));
    }

    static int years(HalfAccuser x, String text) {
        return x.years(feed(x, text));
    }
}
