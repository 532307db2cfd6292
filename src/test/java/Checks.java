/** Counts the checks that hold and those that fail, and prints the latter. */
final class Checks {
    /** A call whose answer, or exception, is looked at. */
    interface Call {
        long answer();
    }

    private String part = "";
    private int passed;
    private int failed;

    void begin(String newPart) {
        part = newPart;
    }

    int passed() {
        return passed;
    }

    int failed() {
        return failed;
    }

    void due(String call, long got, long want) {
        hold(got == want, call + " answered " + got + ", due is " + want);
    }

    void dueDouble(String call, double got, double want) {
        hold(got == want, call + " answered " + got + ", due is " + want);
    }

    /** The values of roof(), user(), day() and their like, one after the other. */
    void dueRow(String call, long[] got, long... want) {
        due(call + " length", got.length, want.length);
        for (int i = 0; i < Math.min(got.length, want.length); i++) {
            due(call + " at " + i, got[i], want[i]);
        }
    }

    void dueArgument(RainReservoir x, String call, Call made) {
        dueThrow(x, call, IllegalArgumentException.class, made);
    }

    void dueState(RainReservoir x, String call, Call made) {
        dueThrow(x, call, IllegalStateException.class, made);
    }

    void dueIndex(RainReservoir x, String call, Call made) {
        dueThrow(x, call, IndexOutOfBoundsException.class, made);
    }

    /** The exception is of that very class, and the call changes nothing. */
    private void dueThrow(RainReservoir x, String call, Class<?> kind, Call made) {
        long before = x.digest();
        Class<?> thrown = null;
        try {
            made.answer();
        } catch (RuntimeException e) {
            thrown = e.getClass();
        }
        hold(thrown == kind, call + " threw " + thrown + ", due is " + kind);
        hold(x.digest() == before, call + " threw, but changed something");
    }

    void hold(boolean right, String told) {
        if (right) {
            passed++;
        } else {
            failed++;
            System.out.println(part + ": " + told);
        }
    }
}
