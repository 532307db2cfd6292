import java.math.BigInteger;
import java.util.ArrayList;
import java.util.List;

/** Boundary cases of promises 27 and 28. */
final class StateEdges {
    private static final int DAYS_AN_OBJECT = 30;

    private final Edges edges;

    StateEdges(Edges edges) {
        this.edges = edges;
    }

    void run() {
        undo();
        undoAnswer();
        undoRefused();
        digestOfNothing();
        digestParts();
        digestOfDays();
        digestOverflow();
    }

    private void undo() {
        edges.sentence(27, "Restores the most recently saved state and removes it from the saved states.");
        RainReservoir x = new RainReservoir();
        x.addRain(1, 1);
        x.addRain(2, 1);
        x.undo();
        edges.dueRow("rains behind undo()", Rows.rains(x), 1);
        x.undo();
        edges.dueRow("rains behind two undo()", Rows.rains(x));
        x.addRain(3, 1);
        x.undo();
        edges.dueRow("rains behind undo() of what came behind undo()", Rows.rains(x));
        RainReservoir mixed = Stands.midst();
        long before = mixed.digest();
        mixed.restart();
        mixed.undo();
        mixed.setWays(1, 1, 1);
        mixed.undo();
        edges.due("digest() behind two calls that are undone", mixed.digest() + 1, before);
        RainReservoir full = Stands.full();
        full.restart();
        full.setReservoir(100, 0, 0);
        full.run(100);
        full.undo();
        full.undo();
        full.undo();
        edges.due("days done behind undo() of restart()", full.setting(9), 70);
        edges.dueRow("the last day done", Rows.day(full, 69), Rows.day(Stands.full(), 69));
        edges.dueRow("the last roof", Rows.roof(full, 5), Rows.roof(Stands.full(), 5));
        edges.dueRow("the last user", Rows.user(full, 4), Rows.user(Stands.full(), 4));
        edges.due("the last rain", full.rain(99), 0);
    }

    private static RainReservoir withSaved(int states) {
        RainReservoir x = new RainReservoir();
        for (int i = 0; i < states; i++) {
            x.run(0);
        }
        return x;
    }

    private void undoAnswer() {
        edges.sentence(27, "Returns the number of saved states that remain.");
        edges.due("undo() of one", withSaved(1).undo(), 0);
        edges.due("undo() of two", withSaved(2).undo(), 1);
        edges.due("undo() of three", withSaved(3).undo(), 2);
        edges.due("undo() of four", withSaved(4).undo(), 3);
        edges.due("undo() of four behind one that was dropped", withSaved(5).undo(), 3);
        edges.due("undo() of four behind many that were dropped", withSaved(200).undo(), 3);
        RainReservoir x = withSaved(5);
        x.undo();
        x.undo();
        x.run(0);
        edges.due("undo() of three, which were four before", x.undo(), 2);
    }

    private void undoRefused() {
        edges.sentence(27, "Throws `IllegalStateException` if there is no saved state");
        edges.refusedState("undo() of a new object", Stands::fresh, x -> x.undo());
        edges.refusedState("undo() behind append()", () -> {
            RainReservoir x = new RainReservoir();
            x.append('5');
            return x;
        }, x -> x.undo());
        edges.refusedState("undo() behind one undo()", () -> undone(withSaved(1), 1), x -> x.undo());
        edges.refusedState("a fifth undo()", () -> undone(withSaved(9), 4), x -> x.undo());
        edges.refusedState("a fifth undo() of a full object", () -> undone(Stands.full(), 4), x -> x.undo());
    }

    private static RainReservoir undone(RainReservoir x, int times) {
        for (int i = 0; i < times; i++) {
            x.undo();
        }
        return x;
    }

    private static void add(List<Long> values, long[] row) {
        for (long value : row) {
            values.add(value);
        }
    }

    /** The accounts of all days; an object answers for some of them, so as not to be called too often. */
    private static void addDays(List<Long> values, Edges.Maker maker) {
        int done = maker.make().setting(9);
        for (int from = 0; from < done; from += DAYS_AN_OBJECT) {
            RainReservoir x = maker.make();
            for (int day = from; day < Math.min(done, from + DAYS_AN_OBJECT); day++) {
                add(values, Rows.day(x, day));
            }
        }
    }

    /** The hash as the document describes it, in numbers that cannot overflow until the end. */
    private static long described(Edges.Maker maker, int savedStates) {
        RainReservoir x = maker.make();
        List<Long> values = new ArrayList<>();
        values.add((long) maker.make().clearText());
        add(values, Rows.settings(x));
        for (int roof = 0; roof < x.setting(6); roof++) {
            add(values, Rows.roof(x, roof));
        }
        for (int user = 0; user < x.setting(7); user++) {
            add(values, Rows.user(x, user));
        }
        add(values, Rows.rains(maker.make()));
        addDays(values, maker);
        add(values, Rows.sums(x));
        values.add((long) savedStates);
        BigInteger h = BigInteger.valueOf(3203);
        for (long value : values) {
            h = h.multiply(BigInteger.valueOf(31)).add(BigInteger.valueOf(value));
        }
        return h.longValue();
    }

    private void digestOfNothing() {
        hash();
        textLength();
    }

    private void hash() {
        edges.sentence(28, "Returns a hash of the state.");
        edges.due("a new object", new RainReservoir().digest(), described(Stands::fresh, 0));
        edges.due("some of all", Stands.midst().digest(), described(Stands::midst, 4));
        edges.due("a full object", Stands.full().digest(), described(Stands::full, 4));
        edges.due("all days done", Stands.ended().digest(), described(Stands::ended, 4));
        edges.unchanged("digest()", Stands::midst, x -> x.digest());
    }

    private void textLength() {
        edges.sentence(28, "Start with h = 3203 and, for each of the following values v, set h = 31 * h + v: the "
            + "length of the text;");
        dueText(0);
        dueText(1);
        dueText(119);
        dueText(120);
        RainReservoir x = new RainReservoir();
        x.append('5');
        RainReservoir other = new RainReservoir();
        other.append('?');
        edges.due("another text of the same length", other.digest(), x.digest());
    }

    private static RainReservoir withText(int length) {
        RainReservoir x = new RainReservoir();
        for (int i = 0; i < length; i++) {
            x.append('?');
        }
        return x;
    }

    private void dueText(int length) {
        edges.due("a text of " + length, withText(length).digest(), described(() -> withText(length), 0));
    }

    private void due(String told, Edges.Maker maker, int savedStates) {
        edges.due("digest() " + told, maker.make().digest(), described(maker, savedStates));
    }

    private void digestParts() {
        settings();
        roofs();
        users();
        rains();
    }

    private void settings() {
        edges.sentence(28, "setting() for 0 to 11;");
        due("with all settings", StateEdges::allSettings, 4);
    }

    private void roofs() {
        edges.sentence(28, "for each roof the values of roof() for what = 0 to 4;");
        due("of one roof with water", StateEdges::oneRoof, 3);
        due("without a roof that is undone", () -> undone(Stands.roof(7), 1), 0);
    }

    private void users() {
        edges.sentence(28, "for each user the values of user() for what = 0 to 3;");
        due("of one user", StateEdges::oneUser, 4);
        due("of a user of nothing", StateEdges::userOfNothing, 1);
    }

    private void rains() {
        edges.sentence(28, "all rains;");
        due("of one rain that is not done", StateEdges::oneRain, 1);
        due("of rains that are undone", () -> undone(oneRain(), 1), 0);
        due("of a full object without the last rains", () -> undone(Stands.full(), 4), 0);
    }

    private static RainReservoir allSettings() {
        RainReservoir x = new RainReservoir();
        x.addRoof(500, 100, 0, 50000);
        x.addUser(1, 2);
        x.setReservoir(4000, 300, 200);
        x.setWays(9, 8, 3);
        x.addRain(4, 1);
        x.addRain(0, 3);
        x.run(3);
        return x;
    }

    private static RainReservoir oneRoof() {
        RainReservoir x = new RainReservoir();
        x.addRoof(11, 100, 60, 70);
        x.addRain(5, 1);
        x.run(1);
        return x;
    }

    private static RainReservoir oneUser() {
        RainReservoir x = Stands.roof(10);
        x.addUser(30, 9);
        x.addRain(4, 2);
        x.run(2);
        return x;
    }

    private static RainReservoir userOfNothing() {
        RainReservoir x = new RainReservoir();
        x.addUser(0, 1);
        return x;
    }

    private static RainReservoir oneRain() {
        RainReservoir x = new RainReservoir();
        x.addRain(200, 1);
        return x;
    }

    private void digestOfDays() {
        days();
        sums();
        savedStates();
    }

    private void days() {
        edges.sentence(28, "for each day done the values of day() for what = 0 to 9;");
        due("of a day that is undone", () -> undone(oneUser(), 1), 3);
        due("of one day without anything", StateEdges::emptyDay, 2);
        due("of all of 100 days", StateEdges::hundredDays, 4);
        due("of 100 days behind restart()", () -> {
            RainReservoir x = hundredDays();
            x.restart();
            return x;
        }, 4);
    }

    private void sums() {
        edges.sentence(28, "sum() for 1 to 9;");
        due("with an overflow of no day", StateEdges::looseOverflow, 4);
    }

    private void savedStates() {
        edges.sentence(28, "the number of saved states.");
        for (int states = 0; states <= 4; states++) {
            int saved = states;
            due("with " + saved + " saved states", () -> withSaved(saved), saved);
        }
        due("with 4 saved states of 5 calls", () -> withSaved(5), 4);
        due("with 3 saved states behind undo()", () -> undone(withSaved(5), 1), 3);
    }

    private static RainReservoir emptyDay() {
        RainReservoir x = new RainReservoir();
        x.addRain(0, 1);
        x.run(1);
        return x;
    }

    private static RainReservoir hundredDays() {
        RainReservoir x = Stands.full();
        x.run(30);
        return x;
    }

    private static RainReservoir looseOverflow() {
        RainReservoir x = oneRoof();
        x.addRain(200, 3);
        x.run(3);
        x.setReservoir(100, 0, 0);
        return x;
    }

    private void digestOverflow() {
        edges.sentence(28, "Returns the hash, with the overflow of long arithmetic ignored.");
        BigInteger h = BigInteger.valueOf(3203);
        RainReservoir x = new RainReservoir();
        long[] values = {0, 10000, 0, 0, 0, 3, 0, 0, 0, 0, 0, 0, 0, 0, 0, 0, 0, 0, 0, 0, 0, 0, 0};
        for (long value : values) {
            h = h.multiply(BigInteger.valueOf(31)).add(BigInteger.valueOf(value));
        }
        edges.due("hash that needs more than the 63 bits of a long", h.shiftRight(63).signum(), 1);
        edges.due("digest() of a new object", x.digest(), h.longValue());
        edges.due("digest() of a full object again", Stands.full().digest(), described(Stands::full, 4));
    }
}
