import java.util.ArrayList;
import java.util.List;

/** An object with the calls that were made on it, so that they can be made again on a new one. */
final class Story {
    private static final int MOST_CALLS = 512;
    private static final int MOST_BYTES = 900;
    private static final int MOST_MARKS = 3;
    private static final long BLANKS = 0x20202020;
    private final List<String> names = new ArrayList<>();
    private final List<long[]> arguments = new ArrayList<>();
    private final HalfAccuser x = new HalfAccuser();
    private int made;

    long call(String name, long... a) {
        names.add(name);
        arguments.add(a);
        count();
        return Calls.call(x, name, a);
    }

    // What calls behind the 512th answer is free.
    private void count() {
        made++;
        if (made == MOST_CALLS + 1) {
            Check.that("more than 512 calls of one object", false);
        }
    }

    // Calls that change nothing: no other object needs them to live alike.

    int status() {
        count();
        return x.status();
    }

    long top() {
        count();
        return x.top();
    }

    long bottom() {
        count();
        return x.bottom();
    }

    int fault(int what) {
        count();
        return x.fault(what);
    }

    int feed(String text) {
        for (long[] five : Calls.fives(text)) {
            call("feed", five);
        }
        return text.length();
    }

    int city(String text) {
        return (int) call("city", feed(text));
    }

    int years(String text) {
        return (int) call("years", feed(text));
    }

    private Story again(int calls) {
        Story other = new Story();
        for (int i = 0; i < calls; i++) {
            other.call(names.get(i), arguments.get(i));
        }
        return other;
    }

    private int callsBeforeLastFeeds() {
        int calls = names.size();
        while (calls > 0 && names.get(calls - 1).equals("feed")) {
            calls--;
        }
        return calls;
    }

    /**
     * What a call changes that can be seen, STATUS left out: "" if nothing. Two objects live as this one did, one
     * of them has the call too, and then all is asked of both. If it takes the text that was fed just ahead, the
     * other one was not fed that, and what fault() tells is not asked.
     */
    String changeBy(boolean takesText, String name, long... a) {
        Story with = again(names.size());
        Story without = again(takesText ? callsBeforeLastFeeds() : names.size());
        with.call(name, a);
        return unlike(with.sight(!takesText), without.sight(!takesText));
    }

    /** As changeBy, but the FRACTION may be another one. */
    String changeByQuestion(String name, long... a) {
        Story with = again(names.size());
        Story without = again(names.size());
        with.call(name, a);
        with.call("plan", 0, 0);
        without.call("plan", 0, 0);
        return unlike(with.sight(true), without.sight(true));
    }

    /** What can be seen of this object that is not so of the other one; both are of no use behind it. */
    String changeFrom(Story other) {
        return unlike(sight(true), other.sight(true));
    }

    private static String unlike(List<String> left, List<String> right) {
        for (int i = 0; i < left.size() && i < right.size(); i++) {
            if (!left.get(i).equals(right.get(i))) {
                return left.get(i) + " where it would be " + right.get(i);
            }
        }
        return left.size() == right.size() ? "" : "more or less to be seen";
    }

    private final List<String> seen = new ArrayList<>();

    // Its STATUS, where the answer does not tell that it is 0.
    private int ask(String name, long... a) {
        long answer = call(name, a);
        boolean tells = answer != -1 && name.equals("read") || Plain.SILENT.contains(name);
        int status = tells ? 0 : status();
        seen.add(name + java.util.Arrays.toString(a) + " " + answer + " (" + status + ")");
        return status;
    }

    /** All that can be asked of an object; it lives on by that, and is of no use behind it. */
    private List<String> sight(boolean ofFaults) {
        ask("top");
        ask("bottom");
        if (ofFaults) {
            ask("fault", 0);
            ask("fault", 1);
        }
        for (int what = 0; what < 5; what++) {
            ask("lived", what);
        }
        seeCity(true);
        seeTrays();
        int taken = 0;
        do {
            seeYears();
            seeCity(false);
            taken++;
        } while (taken <= MOST_MARKS && ask("back") == 0);
        seeTape();
        seeNames();
        return seen;
    }

    private void seeCity(boolean whole) {
        for (int what = 0; what < 11; what++) {
            ask("many", what);
        }
        int people = (int) call("many", 0);
        int deeds = (int) call("many", 1);
        for (int p = 0; p < people; p++) {
            for (int what = 0; what < (whole ? 6 : 1); what++) {
                ask("person", p, what);
            }
        }
        for (int d = 0; d < deeds; d++) {
            for (int what = whole ? 0 : 3; what < (whole ? 6 : 4); what++) {
                ask("deed", d, what);
            }
        }
    }

    private void seeTrays() {
        for (int tray = 0; tray < 4; tray++) {
            int i = 0;
            while (i < 60 && ask("read", tray, i) == 0) {
                i++;
            }
            ask("write", tray, 0, 0x4040404040404040L);
            ask("read", tray, 0);
        }
    }

    private void seeYears() {
        ask("mean", 77, 1);
        ask("top");
        ask("live", 3);
        ask("lived", 0);
    }

    // What the tape holds is seen by the fault that it has, or by the city that it makes.
    private void seeTape() {
        ask("feed", BLANKS, BLANKS, BLANKS, BLANKS, BLANKS);
        long length = call("feed", BLANKS, BLANKS, BLANKS, BLANKS, BLANKS);
        seen.add("a tape of " + length);
        if (length == 40) {
            return;
        }
        ask("mark");
        ask("city", length < 0 ? MOST_BYTES : length);
        ask("fault", 0);
        ask("fault", 1);
        seeCity(false);
        ask("back");
    }

    private void seeNames() {
        for (String text : new String[] {"earn ann 1;", "earn bob 1;", "when open lie;end;", "when open a;end;"}) {
            ask("years", feed(text));
        }
    }
}
