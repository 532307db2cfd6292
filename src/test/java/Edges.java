import java.util.Map;

/** What the tests of boundary cases share: they name a sentence, and look at refused calls. */
final class Edges {
    interface Maker {
        RainReservoir make();
    }

    interface Call {
        long on(RainReservoir x);
    }

    interface Setter {
        long on(RainReservoir x, int value);
    }

    private final Checks checks;
    private final Sentences sentences;

    Edges(Checks checks, Sentences sentences) {
        this.checks = checks;
        this.sentences = sentences;
    }

    /** Begins the test of a sentence of the document; promise 0 is the head. */
    void sentence(int promise, String sentence) {
        checks.begin(Sentences.title(promise) + ", \"" + sentence + "\"");
        checks.hold(sentences.name(promise, sentence), "the document has no such sentence there");
    }

    void due(String call, long got, long want) {
        checks.due(call, got, want);
    }

    void dueDouble(String call, double got, double want) {
        checks.dueDouble(call, got, want);
    }

    void dueRow(String call, long[] got, long... want) {
        checks.dueRow(call, got, want);
    }

    void refusedArgument(String told, Maker maker, Call call) {
        refused(IllegalArgumentException.class, told, maker, call);
    }

    void refusedState(String told, Maker maker, Call call) {
        refused(IllegalStateException.class, told, maker, call);
    }

    void refusedIndex(String told, Maker maker, Call call) {
        refused(IndexOutOfBoundsException.class, told, maker, call);
    }

    /** The call throws that very exception, and the object answers as one without the call does. */
    private void refused(Class<?> kind, String told, Maker maker, Call call) {
        RainReservoir x = maker.make();
        long before = x.digest();
        Class<?> thrown = null;
        try {
            call.on(x);
        } catch (RuntimeException e) {
            thrown = e.getClass();
        }
        checks.hold(thrown == kind, told + " threw " + thrown + ", due is " + kind);
        checks.due("digest() after the refused " + told, x.digest(), before);
        alike("the refused " + told, Answers.ofAll(x), Answers.ofAll(maker.make()));
    }

    /** The call changes nothing, whatever it answers. */
    void unchanged(String told, Maker maker, Call call) {
        RainReservoir x = maker.make();
        long before = x.digest();
        call.on(x);
        checks.due("digest() after " + told, x.digest(), before);
        alike(told, Answers.ofAll(x), Answers.ofAll(maker.make()));
    }

    private void alike(String told, Map<String, Object> got, Map<String, Object> want) {
        checks.due("number of answers after " + told, got.size(), want.size());
        for (String question : want.keySet()) {
            checks.hold(want.get(question).equals(got.get(question)), question + " after " + told + " answered "
                + got.get(question) + ", due is " + want.get(question));
        }
    }

    /** The first arguments that are refused on either side of a range, and the furthest ones. */
    void outside(String told, Maker maker, int least, int most, Setter setter) {
        int[] wrong = {least - 1, most + 1, Integer.MIN_VALUE, Integer.MAX_VALUE};
        for (int value : wrong) {
            refusedArgument(told + " of " + value, maker, x -> setter.on(x, value));
        }
    }

    /** As outside(), where the value is the number of one of so many things. */
    void outsideIndex(String told, Maker maker, int count, Setter setter) {
        int[] wrong = {-1, count, Integer.MIN_VALUE, Integer.MAX_VALUE};
        for (int value : wrong) {
            refusedIndex(told + " of " + value, maker, x -> setter.on(x, value));
        }
    }

    /** The last values that are taken are answered by the setter; those behind them are refused. */
    void range(String told, Maker maker, int least, int most, Setter setter) {
        due(told + " of " + least, setter.on(maker.make(), least), least);
        due(told + " of " + most, setter.on(maker.make(), most), most);
        outside(told, maker, least, most, setter);
    }

    /**
     * The call saves the state from before it, and undo() brings that back. On an object with four
     * saved states the oldest one is dropped, and the three behind it come back in their order.
     */
    void undoable(String told, Maker maker, Call call) {
        int saved = savedStates(maker.make());
        int left = Math.min(saved, 3);
        RainReservoir x = maker.make();
        RainReservoir twin = maker.make();
        call.on(x);
        due("undo() of " + told, x.undo(), left);
        dueSameState("undo() of " + told, x, left, twin, saved);
        for (int behind = 1; behind <= left; behind++) {
            due("undo() " + behind + " behind " + told, x.undo(), left - behind);
            twin.undo();
            dueSameState("undo() " + behind + " behind " + told, x, left - behind, twin, saved - behind);
        }
        checks.dueState(x, "one undo() more behind " + told, () -> x.undo());
        RainReservoir undone = maker.make();
        call.on(undone);
        undone.undo();
        alike("undo() of " + told, Answers.ofState(undone), Answers.ofState(maker.make()));
    }

    /** The digest ends with the number of saved states, in which the two may differ. */
    private void dueSameState(String told, RainReservoir x, int saved, RainReservoir twin, int twinSaved) {
        due("digest() after " + told, x.digest() - saved, twin.digest() - twinSaved);
    }

    private static int savedStates(RainReservoir x) {
        for (int count = 0; count < 5; count++) {
            try {
                x.undo();
            } catch (IllegalStateException e) {
                return count;
            }
        }
        return 5;
    }
}
