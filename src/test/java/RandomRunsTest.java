import java.lang.reflect.InvocationTargetException;
import java.lang.reflect.Method;
import java.util.ArrayList;
import java.util.List;
import java.util.Random;
import java.util.Set;

/** All promises: random runs of calls, each answered as the plain reading of the document does. */
final class RandomRunsTest {
    private static final int RUNS = 400;
    /** With the bytes of an item and the digest at the end these stay within the 512 calls promised. */
    private static final int CALLS = 500;
    private static final Set<Class<?>> NAMED = Set.of(IllegalArgumentException.class,
        IllegalStateException.class, IndexOutOfBoundsException.class);

    /** A method, the ranges of its arguments, and how often it is called. */
    private record Kind(String name, int often, int... ranges) {
    }

    private static final Kind[] KINDS = {
        new Kind("addRoof", 6, 1, 500, 1, 100, 0, 999, 1, 50000),
        new Kind("addUser", 6, 0, 9999, 1, 9),
        new Kind("setDemand", 6, 0, 4, 0, 9999),
        new Kind("setReservoir", 8, 100, 60000, 0, 60000, 0, 60000),
        new Kind("setWays", 8, 0, 100, 1, 20, 0, 3),
        new Kind("setting", 4, 0, 11),
        new Kind("roof", 4, 0, 5, 0, 4),
        new Kind("user", 6, 0, 4, 0, 3),
        new Kind("addRain", 6, 0, 200, 1, 100),
        new Kind("addRandomRain", 6, 0, 999999, 1, 100, 0, 100, 1, 200),
        new Kind("rain", 3, 0, 99),
        new Kind("run", 16, 0, 100),
        new Kind("restart", 2),
        new Kind("day", 8, 0, 99, 0, 9),
        new Kind("sum", 4, 1, 9),
        new Kind("reliability", 2),
        new Kind("longestShortage", 2),
        new Kind("shortDaysWith", 2, 100, 60000),
        new Kind("capacityFor", 1, 0, 100),
        new Kind("bestRule", 3),
        new Kind("sustainable", 2),
        new Kind("gutterLoss", 2, 0, 5),
        new Kind("append", 12, 0, 127),
        new Kind("clearText", 4),
        new Kind("parse", 6),
        new Kind("undo", 6),
        new Kind("digest", 6),
    };

    private final Checks checks;
    private final List<Kind> drawn = new ArrayList<>();

    RandomRunsTest(Checks checks) {
        this.checks = checks;
        for (Kind kind : KINDS) {
            for (int i = 0; i < kind.often; i++) {
                drawn.add(kind);
            }
        }
    }

    void run() throws Exception {
        for (int seed = 0; seed < RUNS; seed++) {
            checks.begin("random run " + seed);
            oneRun(new Random(seed));
        }
    }

    private void oneRun(Random random) throws Exception {
        RainReservoir x = new RainReservoir();
        PlainReservoir plain = new PlainReservoir();
        int scale = random.nextInt(3);
        StringBuilder told = new StringBuilder();
        for (int call = 0; call < CALLS; call++) {
            if (random.nextInt(12) == 0) {
                call += appendItem(random, x, plain);
            }
            Kind kind = drawn.get(random.nextInt(drawn.size()));
            Object[] arguments = new Object[kind.ranges.length / 2];
            for (int i = 0; i < arguments.length; i++) {
                arguments[i] = argument(random, scale, kind.ranges[2 * i], kind.ranges[2 * i + 1]);
            }
            String name = kind.name + List.of(arguments);
            Object got = answer(x, kind.name, arguments);
            Object want = answer(plain, kind.name, arguments);
            told.append(' ').append(name);
            checks.hold(got.equals(want), name + " answered " + got + ", due is " + want);
            if (!got.equals(want)) {
                System.out.println("after" + told);
                return;
            }
        }
        checks.due("digest() at the end", x.digest(), plain.digest());
    }

    /** Random bytes are seldom an item, so most bytes of the text come from here. */
    private int appendItem(Random random, RainReservoir x, PlainReservoir plain) throws Exception {
        StringBuilder item = new StringBuilder();
        item.append(random.nextInt(random.nextInt(8) == 0 ? 2100 : 201));
        if (random.nextBoolean()) {
            item.append('x').append(random.nextInt(random.nextInt(8) == 0 ? 110 : 12));
        }
        item.append(random.nextInt(10) == 0 ? ',' : ';');
        for (int i = 0; i < item.length(); i++) {
            Object got = answer(x, "append", (int) item.charAt(i));
            checks.hold(got.equals(answer(plain, "append", (int) item.charAt(i))), "append answered " + got);
        }
        return item.length();
    }

    /** Mostly in the range, with its edges and what is just outside more often; small by scale. */
    private static int argument(Random random, int scale, int least, int most) {
        switch (random.nextInt(40)) {
            case 0: return least - 1;
            case 1: return most + 1;
            case 2: return random.nextInt();
            case 3:
            case 4: return least;
            case 5:
            case 6: return most;
            default:
                int span = most - least + 1;
                if (scale > 0 && span > 20) {
                    span = Math.max(20, span / (scale == 1 ? 20 : 4));
                }
                return least + random.nextInt(span);
        }
    }

    /** The answer, or the name of the exception; one that the machine throws has another name. */
    private static Object answer(Object target, String name, Object... arguments) throws Exception {
        Class<?>[] types = new Class<?>[arguments.length];
        java.util.Arrays.fill(types, int.class);
        Method method = target.getClass().getMethod(name, types);
        try {
            return method.invoke(target, arguments);
        } catch (InvocationTargetException e) {
            Throwable cause = e.getCause();
            return (NAMED.contains(cause.getClass()) ? "throws." : "fails by ") + cause.getClass().getName();
        }
    }
}
