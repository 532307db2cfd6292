import java.util.LinkedHashMap;
import java.util.Map;

/**
 * What an object answers to all questions. It takes some 220 calls at most, so that a full object
 * stays below the 512 calls that the document promises.
 */
final class Answers {
    private final RainReservoir x;
    private final Map<String, Object> found = new LinkedHashMap<>();

    private Answers(RainReservoir x) {
        this.x = x;
    }

    /** All that undo() brings back. */
    static Map<String, Object> ofState(RainReservoir x) {
        Answers answers = new Answers(x);
        answers.things();
        answers.days();
        answers.whatIf();
        return answers.found;
    }

    /** The saved states and the text too; behind this the object is another one. */
    static Map<String, Object> ofAll(RainReservoir x) {
        Map<String, Object> found = ofState(x);
        found.put("digest()", x.digest());
        for (int i = 1; i <= 5; i++) {
            found.put("undo() " + i, undone(x));
            found.put("digest() after undo() " + i, x.digest());
        }
        found.put("parse()", x.parse());
        found.put("digest() after parse()", x.digest());
        return found;
    }

    private static int undone(RainReservoir x) {
        try {
            return x.undo();
        } catch (IllegalStateException e) {
            return -1;
        }
    }

    private void put(String name, long[] row) {
        for (int i = 0; i < row.length; i++) {
            found.put(name + " at " + i, row[i]);
        }
    }

    private void things() {
        put("setting", Rows.settings(x));
        for (int i = 0; i < x.setting(6); i++) {
            put("roof " + i, Rows.roof(x, i));
        }
        for (int i = 0; i < x.setting(7); i++) {
            put("user " + i, Rows.user(x, i));
        }
        int rains = x.setting(8);
        for (int i = 0; i < rains; i = next(i, rains, 10)) {
            found.put("rain " + i, x.rain(i));
        }
    }

    private void days() {
        int done = x.setting(9);
        for (int i = 0; i < done; i = next(i, done, 5)) {
            put("day " + i, Rows.day(x, i));
        }
        put("sum", Rows.sums(x));
        found.put("reliability", x.reliability());
        found.put("longestShortage", x.longestShortage());
    }

    private void whatIf() {
        found.put("shortDaysWith(100)", x.shortDaysWith(100));
        found.put("shortDaysWith(2000)", x.shortDaysWith(2000));
        found.put("capacityFor(1)", x.capacityFor(1));
        found.put("bestRule", x.bestRule());
        found.put("sustainable", x.sustainable());
        for (int i = 0; i < x.setting(6); i++) {
            found.put("gutterLoss " + i, x.gutterLoss(i));
        }
    }

    /** The first ones and the last ones of many. */
    private static int next(int i, int count, int ends) {
        return i + 1 >= ends && i + 1 < count - ends ? count - ends : i + 1;
    }
}
