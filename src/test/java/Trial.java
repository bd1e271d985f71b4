import java.util.Arrays;
import java.util.HashSet;
import java.util.Set;

/** Calls on one object, each with the answer or the refusal that is due. */
abstract class Trial {
    static final int LEAST = Integer.MIN_VALUE;
    static final int MOST = Integer.MAX_VALUE;
    static Story story = new Story();

    static void fresh() {
        story = new Story();
    }

    static void fresh(String city) {
        fresh();
        Check.that("the city is taken: " + city, story.city(city) >= 0 && story.status() == 0);
    }

    static String shown(String name, long... a) {
        return name + Arrays.toString(a);
    }

    // Calls that only ask: nothing is changed by them but STATUS and the FRACTION.
    private static final Set<String> QUESTIONS = new HashSet<>(Arrays.asList("read", "many", "person", "deed", "can",
            "chance", "votes", "wins", "owes", "gain", "loss", "best", "plan", "accuser", "dreaded", "dread", "friend",
            "quiet", "trade", "leastShare", "leastFine", "mostPenalty", "gladBy", "game", "moveOf", "club", "clubPart",
            "gained", "sure", "bound", "lived", "mean"));

    /** One call that answers, with STATUS 0. */
    static void due(int promise, long answer, String name, long... a) {
        Check.promise(promise);
        if (QUESTIONS.contains(name)) {
            String change = story.changeByQuestion(name, a);
            Check.that(shown(name, a) + " changes " + change, change.isEmpty());
        }
        Check.same(shown(name, a), story.call(name, a), answer);
        if (!Plain.SILENT.contains(name)) {
            Check.same(shown(name, a) + ": status", story.status(), 0);
        }
    }

    /** One call that is refused with this STATUS, and changes nothing but that. */
    static void refused(int promise, int status, String name, long... a) {
        Check.promise(promise);
        String change = story.changeBy(status == 10, name, a);
        Check.that(shown(name, a) + " changes " + change, change.isEmpty());
        Check.same(shown(name, a), story.call(name, a), Plain.BOOLEANS.contains(name) ? 0 : -1);
        Check.same(shown(name, a) + ": status", story.status(), status);
    }

    static void fraction(int promise, long top, long bottom, String name, long... a) {
        due(promise, 1, name, a);
        Check.same(shown(name, a) + ": top", story.top(), top);
        Check.same(shown(name, a) + ": bottom", story.bottom(), bottom);
    }

    /** A text that must be refused with this FAULT; the tape is empty then, and all else as it was. */
    static void faulty(int promise, String name, String text, int kind, int place) {
        refused(promise, 10, name, story.feed(text));
        Check.same(text + ": fault", story.fault(0), kind);
        Check.same(text + ": place", story.fault(1), place);
        due(promise, 20, "feed", 0, 0, 0, 0, 0);
    }

    static String times(String text, int n) {
        StringBuilder all = new StringBuilder();
        for (int i = 0; i < n; i++) {
            all.append(text.replace('#', (char) ('a' + i)));
        }
        return all.toString();
    }
}
