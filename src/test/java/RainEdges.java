import java.math.BigInteger;

/** Boundary cases of promises 10 to 12: days of rain. */
final class RainEdges {
    private final Edges edges;

    RainEdges(Edges edges) {
        this.edges = edges;
    }

    void run() {
        addRain();
        addRandomRain();
        rain();
    }

    private void addRain() {
        moreRain();
        addRainUndoable();
        rainRange();
        daysRange();
        numberOfDays();
        addRainOutOfRange();
        addRainBeyond();
    }

    private void moreRain() {
        edges.sentence(10, "Adds days of rain.");
        RainReservoir x = Stands.midst();
        int before = x.setting(8);
        x.addRain(199, 2);
        edges.due("days of rain", x.setting(8), before + 2);
        edges.due("rain of the first of them", x.rain(before), 199);
        edges.due("rain of the last of them", x.rain(before + 1), 199);
        edges.due("rain before them", x.rain(before - 1), Stands.midst().rain(before - 1));
        edges.due("days done", x.setting(9), Stands.midst().setting(9));
    }

    private void addRainUndoable() {
        edges.sentence(10, "Undoable.");
        edges.undoable("addRain()", Stands::fresh, y -> y.addRain(200, 100));
        edges.undoable("addRain() in the midst", Stands::midst, y -> y.addRain(0, 1));
    }

    private void rainRange() {
        edges.sentence(10, "`rain`: 0 to 200");
        edges.range("rain", Stands::midst, 0, 200, (y, v) -> y.rain(y.addRain(v, 1) - 1));
    }

    private void daysRange() {
        edges.sentence(10, "`days`: number of days with this rain, 1 to 100");
        edges.range("days", Stands::fresh, 1, 100, (y, v) -> y.addRain(200, v));
        edges.outside("days", Stands::midst, 1, 100, (y, v) -> y.addRain(0, v));
    }

    private void numberOfDays() {
        edges.sentence(10, "Returns the number of days of rain.");
        RainReservoir z = new RainReservoir();
        edges.due("addRain() first", z.addRain(5, 1), 1);
        edges.due("addRain() of two", z.addRain(5, 2), 3);
        edges.due("addRain() to 100", z.addRain(5, 97), 100);
    }

    private void addRainOutOfRange() {
        edges.sentence(10, "Throws `IllegalArgumentException` if rain or days is out of range");
        int[][] wrong = {{-1, 1}, {201, 1}, {0, 0}, {0, 101}, {201, 101}, {201, 100}};
        for (int[] w : wrong) {
            String told = "addRain() of " + w[0] + ", " + w[1];
            edges.refusedArgument(told, Stands::fresh, y -> y.addRain(w[0], w[1]));
            edges.refusedArgument(told + " of a full object", Stands::full, y -> y.addRain(w[0], w[1]));
        }
    }

    private void addRainBeyond() {
        edges.sentence(10, "Throws `IllegalStateException` if there would be more than 100 days");
        int before = Stands.midst().setting(8);
        edges.due("to 100 days", Stands.midst().addRain(1, 100 - before), 100);
        edges.refusedState("to 101 days", Stands::midst, y -> y.addRain(1, 101 - before));
        edges.refusedState("100 days more", Stands::midst, y -> y.addRain(1, 100));
        edges.refusedState("1 day behind 100", Stands::full, y -> y.addRain(0, 1));
        edges.refusedState("100 days behind 100", Stands::full, y -> y.addRain(200, 100));
    }

    private static BigInteger nextS(BigInteger s) {
        return s.multiply(BigInteger.valueOf(1103515245)).add(BigInteger.valueOf(12345))
            .mod(BigInteger.valueOf(2147483648L));
    }

    private static int upper(BigInteger s) {
        return s.divide(BigInteger.valueOf(65536)).intValue();
    }

    /** The rains as the document describes them, with numbers that cannot overflow. */
    private static long[] drawn(int seed, int days, int chance, int most) {
        long[] rains = new long[days];
        BigInteger s = BigInteger.valueOf(seed);
        for (int i = 0; i < days; i++) {
            s = nextS(s);
            if (upper(s) % 100 < chance) {
                s = nextS(s);
                rains[i] = 1 + upper(s) % most;
            }
        }
        return rains;
    }

    private void dueDrawn(int seed, int days, int chance, int most) {
        RainReservoir x = new RainReservoir();
        String told = "addRandomRain(" + seed + ", " + days + ", " + chance + ", " + most + ")";
        edges.due(told, x.addRandomRain(seed, days, chance, most), days);
        edges.dueRow(told, Rows.rains(x), drawn(seed, days, chance, most));
    }

    private void addRandomRain() {
        moreRandomRain();
        seedFirst();
        nextNumber();
        chances();
        noRain();
        addRandomRainUndoable();
        addRandomRainArguments();
    }

    private void moreRandomRain() {
        edges.sentence(11, "Adds random days of rain.");
        RainReservoir x = new RainReservoir();
        x.addRain(7, 98);
        edges.due("addRandomRain() behind 98 days", x.addRandomRain(0, 2, 100, 200), 100);
        edges.due("rain(97)", x.rain(97), 7);
        edges.due("rain(98)", x.rain(98), drawn(0, 2, 100, 200)[0]);
        edges.due("rain(99)", x.rain(99), drawn(0, 2, 100, 200)[1]);
    }

    private void seedFirst() {
        edges.sentence(11, "There is a number s, which is the seed at first.");
        dueDrawn(0, 100, 100, 200);
        dueDrawn(1, 100, 100, 200);
        dueDrawn(999999, 100, 100, 200);
        RainReservoir again = new RainReservoir();
        again.addRandomRain(5, 1, 100, 200);
        again.addRandomRain(5, 1, 100, 200);
        edges.due("the first rain of the same seed", again.rain(1), again.rain(0));
    }

    private void nextNumber() {
        edges.sentence(11, "For each day s becomes (1103515245 * s + 12345) modulo 2147483648;");
        for (int seed = 0; seed < 40; seed++) {
            dueDrawn(seed * 25641, 25, 50, 200);
        }
    }

    private void noRain() {
        edges.sentence(11, "otherwise it is 0.");
        dueDrawn(0, 100, 0, 200);
        edges.dueRow("no chance", drawn(3, 3, 0, 1), 0, 0, 0);
        edges.due("rain without a chance", randomDay(999999, 0, 200), 0);
    }

    private void addRandomRainUndoable() {
        edges.sentence(11, "Undoable.");
        edges.undoable("addRandomRain()", Stands::fresh, y -> y.addRandomRain(0, 100, 50, 200));
        edges.undoable("addRandomRain() in the midst", Stands::midst, y -> y.addRandomRain(0, 1, 0, 1));
    }

    private static int randomDay(int seed, int chance, int most) {
        RainReservoir x = new RainReservoir();
        x.addRandomRain(seed, 1, chance, most);
        return x.rain(0);
    }

    /** For the least, a middle and the greatest number that is drawn: the chance at it and above. */
    private void chances() {
        edges.sentence(11, "if (s / 65536) modulo 100 is less than the chance, s becomes the same once more, and the "
            + "rain is 1 + ((s / 65536) modulo most);");
        int[] numbers = {0, 1, 50, 98, 99};
        for (int number : numbers) {
            int seed = 0;
            while (upper(nextS(BigInteger.valueOf(seed))) % 100 != number) {
                seed++;
            }
            edges.due("rain with the chance " + number, randomDay(seed, number, 200), 0);
            edges.due("rain with a chance above " + number, randomDay(seed, number + 1, 200),
                drawn(seed, 1, 100, 200)[0]);
        }
        dueDrawn(0, 100, 1, 200);
        dueDrawn(0, 100, 99, 200);
        dueDrawn(0, 100, 100, 1);
        dueDrawn(0, 100, 100, 2);
        edges.due("rain of at most 1", randomDay(12, 100, 1), 1);
        int least = 200;
        int greatest = 0;
        for (int seed = 0; seed < 3000; seed++) {
            int rain = randomDay(seed, 100, 200);
            least = Math.min(least, rain);
            greatest = Math.max(greatest, rain);
        }
        edges.due("the least of many rains of at most 200", least, 1);
        edges.due("the greatest of many rains of at most 200", greatest, 200);
    }

    private void addRandomRainArguments() {
        seed();
        randomDays();
        chance();
        most();
        numberOfRandomDays();
        addRandomRainOutOfRange();
        addRandomRainBeyond();
    }

    private void seed() {
        edges.sentence(11, "`seed`: 0 to 999999");
        edges.due("seed 0", randomDay(0, 100, 200), drawn(0, 1, 100, 200)[0]);
        edges.due("seed 999999", randomDay(999999, 100, 200), drawn(999999, 1, 100, 200)[0]);
        edges.outside("seed", Stands::midst, 0, 999999, (y, v) -> y.addRandomRain(v, 1, 0, 1));
    }

    private void randomDays() {
        edges.sentence(11, "`days`: 1 to 100");
        edges.range("days", Stands::fresh, 1, 100, (y, v) -> y.addRandomRain(0, v, 0, 1));
    }

    private void chance() {
        edges.sentence(11, "`chance`: 0 to 100");
        edges.due("chance 0", randomDay(0, 0, 1), 0);
        edges.due("chance 100", randomDay(0, 100, 1), 1);
        edges.outside("chance", Stands::midst, 0, 100, (y, v) -> y.addRandomRain(0, 1, v, 1));
    }

    private void most() {
        edges.sentence(11, "`most`: 1 to 200");
        edges.due("most 1", randomDay(0, 100, 1), 1);
        edges.due("most 200", randomDay(0, 100, 200), drawn(0, 1, 100, 200)[0]);
        edges.outside("most", Stands::midst, 1, 200, (y, v) -> y.addRandomRain(0, 1, 0, v));
    }

    private void numberOfRandomDays() {
        edges.sentence(11, "Returns the number of days of rain.");
        int before = Stands.midst().setting(8);
        edges.due("1 day behind those in the midst", Stands.midst().addRandomRain(0, 1, 0, 1), before + 1);
        edges.due("to 100 days", Stands.midst().addRandomRain(0, 100 - before, 0, 1), 100);
    }

    private void addRandomRainOutOfRange() {
        edges.sentence(11, "Throws `IllegalArgumentException` if an argument is out of range");
        int[][] wrong = {{-1, 1, 0, 1}, {1000000, 1, 0, 1}, {0, 0, 0, 1}, {0, 101, 0, 1}, {0, 1, -1, 1},
            {0, 1, 101, 1}, {0, 1, 0, 0}, {0, 1, 0, 201}, {-1, 101, 101, 0}};
        for (int[] w : wrong) {
            String told = "addRandomRain() of " + w[0] + ", " + w[1] + ", " + w[2] + ", " + w[3];
            edges.refusedArgument(told, Stands::fresh, y -> y.addRandomRain(w[0], w[1], w[2], w[3]));
            edges.refusedArgument(told + " of a full object",
                Stands::full, y -> y.addRandomRain(w[0], w[1], w[2], w[3]));
        }
    }

    private void addRandomRainBeyond() {
        edges.sentence(11, "Throws `IllegalStateException` if there would be more than 100 days");
        int before = Stands.midst().setting(8);
        edges.refusedState("to 101 days", Stands::midst, y -> y.addRandomRain(0, 101 - before, 50, 9));
        edges.refusedState("100 days more", Stands::midst, y -> y.addRandomRain(0, 100, 0, 1));
        edges.refusedState("1 day behind 100", Stands::full, y -> y.addRandomRain(999999, 1, 100, 200));
    }

    private void rain() {
        rainReads();
        rainOfADay();
        leastAndGreatestRain();
        noSuchRain();
    }

    private void rainReads() {
        edges.sentence(12, "Returns the rain of a day.");
        edges.unchanged("rain()", Stands::midst, y -> y.rain(0));
        edges.due("rain of a day that is done", Stands.midst().rain(1), 12);
        edges.due("rain of a day that is not done", Stands.full().rain(74), 200);
    }

    private void rainOfADay() {
        edges.sentence(12, "`day`: number of a day of rain");
        RainReservoir x = new RainReservoir();
        x.addRain(3, 1);
        x.addRain(4, 98);
        x.addRain(5, 1);
        edges.due("rain(0)", x.rain(0), 3);
        edges.due("rain(99)", x.rain(99), 5);
        edges.refusedIndex("rain(-1)", Stands::full, y -> y.rain(-1));
        edges.refusedIndex("rain(100)", Stands::full, y -> y.rain(100));
    }

    private void leastAndGreatestRain() {
        edges.sentence(12, "Returns the rain.");
        RainReservoir z = new RainReservoir();
        z.addRain(0, 1);
        z.addRain(200, 1);
        edges.due("rain of 0", z.rain(0), 0);
        edges.due("rain of 200", z.rain(1), 200);
    }

    private void noSuchRain() {
        edges.sentence(12, "Throws `IndexOutOfBoundsException` if there is no such day");
        edges.outsideIndex("rain()", Stands::fresh, 0, (y, v) -> y.rain(v));
        edges.outsideIndex("rain()", Stands::midst, Stands.midst().setting(8), (y, v) -> y.rain(v));
        edges.outsideIndex("rain()", Stands::full, 100, (y, v) -> y.rain(v));
        edges.refusedIndex("a day of rain that is undone", RainEdges::rainUndone, y -> y.rain(1));
    }

    private static RainReservoir rainUndone() {
        RainReservoir x = new RainReservoir();
        x.addRain(3, 1);
        x.addRain(4, 1);
        x.undo();
        return x;
    }
}
