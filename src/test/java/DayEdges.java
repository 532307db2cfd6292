/** Boundary cases of how a day goes, and of the rules for shares. */
final class DayEdges {
    private final Edges edges;

    DayEdges(Edges edges) {
        this.edges = edges;
    }

    void run() {
        oneAfterTheOther();
        beyondTheLastDay();
        dryLimit();
        dryLimitOfThatDay();
        rainEndsTheDryDays();
        caught();
        diverter();
        gutter();
        remainder();
        inflow();
        overflow();
        evaporation();
        evaporationIsTaken();
        available();
        enoughForAll();
        notEnoughForAll();
        whatTheyGetIsTaken();
        topUp();
        shortDay();
        lessThanTheDemands();
        proportions();
        litersThatAreLeft();
        byOrder();
        lastByOrder();
        inRounds();
        roundsGoOn();
        smallestFirst();
    }

    private void oneAfterTheOther() {
        edges.sentence(0, "The days 0, 1, and so on, are done one after the other;");
        RainReservoir x = Rows.literARain();
        Rows.append(x, "1;2;3;");
        x.parse();
        x.run(1);
        edges.due("days done", x.setting(9), 1);
        edges.due("inflow of day 0", x.day(0, 1), 1);
        x.run(2);
        edges.due("days done", x.setting(9), 3);
        edges.due("inflow of day 1", x.day(1, 1), 2);
        edges.due("inflow of day 2", x.day(2, 1), 3);
        edges.due("level", x.day(2, 0), 6);
    }

    private void beyondTheLastDay() {
        edges.sentence(0, "a day beyond the last day of rain cannot be done.");
        edges.refusedState("run(1) without rains", Stands::fresh, x -> x.run(1));
        edges.refusedState("run(1) of all days done", Stands::ended, x -> x.run(1));
        int left = Stands.midst().setting(8) - Stands.midst().setting(9);
        edges.refusedState("run() of a day too many", Stands::midst, x -> x.run(left + 1));
        RainReservoir y = Stands.midst();
        y.run(left);
        edges.due("days done", y.setting(9), y.setting(8));
        edges.due("run(0) of all days done", y.run(0), 0);
        long done = y.setting(9);
        y.addRain(5, 1);
        y.run(1);
        edges.due("days done after another day of rain", y.setting(9), done + 1);
        edges.refusedState("run(31) of 30 days", Stands::full, x -> x.run(31));
        RainReservoir z = Stands.full();
        z.run(30);
        edges.due("days done of a full object", z.setting(9), 100);
    }

    /** A rain of 10 millimeters into two diverters, and only dry days behind it. */
    private static RainReservoir dry(int dryLimit) {
        RainReservoir x = new RainReservoir();
        x.addRoof(1, 100, 50, 50000);
        x.addRoof(2, 100, 50, 50000);
        if (dryLimit > 0) {
            x.setWays(0, dryLimit, 0);
        }
        x.addRain(10, 1);
        x.addRain(0, 99);
        x.run(1);
        return x;
    }

    /** The diverters keep their water until there have been so many dry days. */
    private void dueDrained(RainReservoir x, int dryDays) {
        x.run(dryDays - 1);
        edges.due("dry days", x.setting(11), dryDays - 1);
        edges.due("water of roof 1 after " + (dryDays - 1), x.roof(1, 4), 20);
        edges.due("drained before", x.sum(9), 0);
        x.run(1);
        edges.due("dry days", x.setting(11), dryDays);
        edges.due("water of roof 0 after " + dryDays, x.roof(0, 4), 0);
        edges.due("water of roof 1 after " + dryDays, x.roof(1, 4), 0);
        edges.due("drained", x.day(dryDays, 9), 30);
        x.run(1);
        edges.due("drained of empty diverters", x.day(dryDays + 1, 9), 0);
    }

    private void dryLimit() {
        edges.sentence(0, "If r is 0, the number of dry days in a row increases by 1, and if it is the dry limit "
            + "then (1 to 20, initially 3) or more, all diverters are emptied (their water is drained).");
        dueDrained(dry(0), 3);
        dueDrained(dry(1), 1);
        dueDrained(dry(20), 20);
        edges.refusedArgument("a dry limit of 0", Stands::midst, x -> x.setWays(0, 0, 0));
        edges.refusedArgument("a dry limit of 21", Stands::midst, x -> x.setWays(0, 21, 0));
        RainReservoir all = dry(20);
        all.run(99);
        edges.due("dry days of 99", all.setting(11), 99);
        edges.due("drained in all", all.sum(9), 30);
        RainReservoir first = new RainReservoir();
        first.addRain(0, 1);
        first.run(1);
        edges.due("dry days when the first day is dry", first.setting(11), 1);
    }

    private void dryLimitOfThatDay() {
        RainReservoir lowered = dry(20);
        lowered.run(4);
        lowered.setWays(0, 2, 0);
        edges.due("water when the limit was lowered", lowered.roof(0, 4), 10);
        lowered.run(1);
        edges.due("drained on day 5, more than the limit", lowered.day(5, 9), 30);
        RainReservoir raised = dry(3);
        raised.run(2);
        raised.setWays(0, 4, 0);
        raised.run(1);
        edges.due("drained on the third dry day, the limit raised", raised.day(3, 9), 0);
        raised.run(1);
        edges.due("drained on the fourth dry day", raised.day(4, 9), 30);
    }

    private void rainEndsTheDryDays() {
        edges.sentence(0, "Otherwise the number of dry days in a row becomes 0.");
        RainReservoir x = new RainReservoir();
        x.addRoof(1, 100, 50, 50000);
        Rows.append(x, "10;0x2;1;0x2;200;0x3;");
        x.parse();
        x.run(4);
        edges.due("dry days after a rain of 1", x.setting(11), 0);
        edges.due("water after a rain of 1", x.roof(0, 4), 11);
        x.run(2);
        edges.due("dry days after two more", x.setting(11), 2);
        edges.due("drained until then", x.sum(9), 0);
        x.run(1);
        edges.due("dry days after a rain of 200", x.setting(11), 0);
        x.run(3);
        edges.due("drained on the third dry day", x.day(9, 9), 50);
    }

    private void caught() {
        edges.sentence(0, "For each roof in ascending order: the catch is area * r * yield / 100.");
        RainReservoir x = new RainReservoir();
        x.addRoof(1, 99, 0, 50000);
        x.addRoof(1, 1, 0, 50000);
        x.addRain(1, 1);
        x.addRain(0, 1);
        x.run(2);
        edges.due("inflow of 0.99 and 0.01", x.day(0, 1), 0);
        edges.due("inflow without rain", x.day(1, 1), 0);
        RainReservoir y = new RainReservoir();
        y.addRoof(3, 50, 0, 50000);
        y.addRain(1, 1);
        y.run(1);
        edges.due("inflow of 1.5", y.day(0, 1), 1);
        RainReservoir z = new RainReservoir();
        for (int i = 0; i < 6; i++) {
            z.addRoof(500, 100, 0, 50000);
        }
        z.addRain(200, 1);
        z.run(1);
        edges.due("inflow of the greatest roofs", z.day(0, 1), 300000);
        edges.due("spilled of the greatest roofs", z.day(0, 3), 300000);
    }

    /** A day for each rain, on one square meter. */
    private static RainReservoir days(int flush, int gutter, int... rains) {
        RainReservoir x = new RainReservoir();
        x.addRoof(1, 100, flush, gutter);
        for (int rain : rains) {
            x.addRain(rain, 1);
        }
        x.run(rains.length);
        return x;
    }

    private void diverter() {
        edges.sentence(0, "The diverter takes as much of it as it has room for.");
        RainReservoir x = days(10, 50000, 9, 1, 1);
        edges.due("taken of 9", x.day(0, 2), 9);
        edges.due("inflow of 9", x.day(0, 1), 0);
        edges.due("taken of 1 with room for 1", x.day(1, 2), 1);
        edges.due("inflow of 1 with room for 1", x.day(1, 1), 0);
        edges.due("taken of 1 without room", x.day(2, 2), 0);
        edges.due("inflow of 1 without room", x.day(2, 1), 1);
        edges.due("taken of 10", days(10, 50000, 10).day(0, 2), 10);
        edges.due("taken of 11", days(10, 50000, 11).day(0, 2), 10);
        edges.due("inflow of 11", days(10, 50000, 11).day(0, 1), 1);
        edges.due("taken by a flush of 0", days(0, 50000, 200).day(0, 2), 0);
        RainReservoir great = days(999, 50000, 200, 200, 200, 200, 200);
        edges.due("taken by a flush of 999 on the fifth day", great.day(4, 2), 199);
        edges.due("inflow behind a flush of 999", great.day(4, 1), 1);
    }

    private void gutter() {
        edges.sentence(0, "Of the rest, what is above the gutter is spilled;");
        edges.due("spilled of 9", days(0, 10, 9).day(0, 3), 0);
        edges.due("spilled of 10", days(0, 10, 10).day(0, 3), 0);
        edges.due("spilled of 11", days(0, 10, 11).day(0, 3), 1);
        edges.due("spilled of 15, of which 5 are diverted", days(5, 10, 15).day(0, 3), 0);
        edges.due("spilled of 16, of which 5 are diverted", days(5, 10, 16).day(0, 3), 1);
        edges.due("spilled by a gutter of 1", days(0, 1, 200).day(0, 3), 199);
        edges.due("spilled without rain", days(0, 1, 0).day(0, 3), 0);
        RainReservoir x = Stands.roof(500);
        x.addRain(100, 1);
        x.addRain(101, 1);
        x.run(2);
        edges.due("spilled of 50000", x.day(0, 3), 0);
        edges.due("spilled of 50500", x.day(1, 3), 500);
    }

    private void remainder() {
        edges.sentence(0, "the remainder flows in.");
        edges.due("inflow of 10", days(0, 10, 10).day(0, 1), 10);
        edges.due("inflow of 11", days(0, 10, 11).day(0, 1), 10);
        edges.due("inflow when all is diverted", days(10, 10, 10).day(0, 1), 0);
        edges.due("inflow when all but 1 is diverted", days(10, 10, 11).day(0, 1), 1);
        RainReservoir x = days(7, 10, 20);
        edges.due("diverted, spilled and inflow", x.day(0, 2) + x.day(0, 3) + x.day(0, 1), 20);
    }

    private void inflow() {
        edges.sentence(0, "The inflow of all roofs is added to the level;");
        RainReservoir x = new RainReservoir();
        x.addRain(5, 2);
        x.run(1);
        edges.due("level without roofs", x.setting(10), 0);
        for (int i = 1; i <= 6; i++) {
            x.addRoof(i, 100, 0, 50000);
        }
        x.run(1);
        edges.due("inflow of six roofs", x.day(1, 1), 105);
        edges.due("level with six roofs", x.setting(10), 105);
    }

    private void overflow() {
        edges.sentence(0, "what is above the capacity overflows (the level becomes the capacity).");
        int[] rains = {99, 1, 1, 0, 200};
        long[] levels = {99, 100, 100, 100, 100};
        long[] overflows = {0, 0, 1, 0, 200};
        RainReservoir x = Rows.literARain();
        x.setReservoir(100, 0, 0);
        for (int i = 0; i < rains.length; i++) {
            x.addRain(rains[i], 1);
            x.run(1);
            edges.due("level at the end of day " + i, x.day(i, 0), levels[i]);
            edges.due("overflow of day " + i, x.day(i, 4), overflows[i]);
        }
        RainReservoir y = Rows.literARain();
        y.setReservoir(100, 0, 0);
        y.addUser(30, 1);
        y.addRain(120, 1);
        y.run(1);
        edges.due("overflow before the users get anything", y.day(0, 4), 20);
        edges.due("level after both", y.setting(10), 70);
    }

    /** What evaporates of a full reservoir, or of less than 100 liters. */
    private static long evaporated(int level, int evaporation) {
        RainReservoir x = new RainReservoir();
        if (level < 100) {
            x.addRoof(1, 100, 0, 50000);
            x.addRain(level, 1);
        } else {
            x.addRoof(500, 100, 0, 50000);
            x.addRoof(500, 100, 0, 50000);
            x.addRain(200, 1);
            x.setReservoir(level, 0, 0);
        }
        x.setWays(evaporation, 3, 0);
        x.run(1);
        return x.day(0, 5);
    }

    private void evaporation() {
        edges.sentence(0, "What evaporates is level * evaporation / 1000;");
        edges.due("of 999 liters by 1", evaporated(999, 1), 0);
        edges.due("of 1000 liters by 1", evaporated(1000, 1), 1);
        edges.due("of 1999 liters by 1", evaporated(1999, 1), 1);
        edges.due("of 2000 liters by 1", evaporated(2000, 1), 2);
        edges.due("of 9 liters by 100", evaporated(9, 100), 0);
        edges.due("of 10 liters by 100", evaporated(10, 100), 1);
        edges.due("of 19 liters by 100", evaporated(19, 100), 1);
        edges.due("of 60000 liters by 100", evaporated(60000, 100), 6000);
        edges.due("of 60000 liters by 99", evaporated(60000, 99), 5940);
        edges.due("of 60000 liters by 0", evaporated(60000, 0), 0);
        edges.due("of no water by 100", evaporated(0, 100), 0);
        RainReservoir x = Rows.literARain();
        x.setReservoir(100, 0, 0);
        x.setWays(100, 3, 0);
        x.addRain(200, 1);
        x.run(1);
        edges.due("of 100 liters after 100 overflowed", x.day(0, 5), 10);
    }

    private void evaporationIsTaken() {
        edges.sentence(0, "it is taken from the level.");
        RainReservoir x = Rows.literARain();
        x.addUser(90, 1);
        x.setWays(100, 3, 0);
        x.addRain(100, 2);
        edges.due("run(1) for the 90 that do not evaporate", x.run(1), 0);
        edges.due("level", x.setting(10), 0);
        x.setDemand(0, 91);
        edges.due("run(1) for 91", x.run(1), 1);
        edges.due("lacked", x.day(1, 7), 1);
    }

    /** A day of one user with a floor of 50: the level behind it, and what the user got. */
    private void dueAboveFloor(int water, int level, int got) {
        RainReservoir x = Rows.literARain();
        x.setReservoir(100, 50, 0);
        x.addUser(10, 1);
        x.addRain(water, 1);
        x.run(1);
        edges.due("level of " + water, x.setting(10), level);
        edges.due("got of " + water, x.user(0, 2), got);
    }

    private void available() {
        edges.sentence(0, "The available water is the level minus the pump floor, at least 0.");
        dueAboveFloor(0, 0, 0);
        dueAboveFloor(49, 49, 0);
        dueAboveFloor(50, 50, 0);
        dueAboveFloor(51, 50, 1);
        dueAboveFloor(59, 50, 9);
        dueAboveFloor(60, 50, 10);
        dueAboveFloor(61, 51, 10);
        for (int rule = 0; rule <= 3; rule++) {
            RainReservoir x = Rows.literARain();
            x.setReservoir(100, 50, 0);
            x.setWays(0, 3, rule);
            x.addUser(0, 1);
            x.addUser(3, 9);
            x.addRain(20, 1);
            edges.due("run(1) far below the floor by rule " + rule, x.run(1), 1);
            edges.dueRow("got far below the floor by rule " + rule, Rows.latest(x), 0, 0);
            edges.due("level far below the floor by rule " + rule, x.setting(10), 20);
        }
    }

    private void enoughForAll() {
        edges.sentence(0, "If it is at least the sum of all demands, each user gets its demand.");
        for (int rule = 0; rule <= 3; rule++) {
            int[] demands = {10, 0, 20, 7};
            edges.dueRow("37 by rule " + rule, Rows.shares(rule, 37, demands, 1, 2, 3, 9), 10, 0, 20, 7);
            edges.dueRow("38 by rule " + rule, Rows.shares(rule, 38, demands, 1, 2, 3, 9), 10, 0, 20, 7);
            edges.dueRow("0 for 0 by rule " + rule, Rows.shares(rule, 0, new int[] {0, 0}, 1, 9), 0, 0);
            edges.dueRow("0 for nobody by rule " + rule, Rows.shares(rule, 0, new int[0]));
        }
    }

    private void notEnoughForAll() {
        edges.sentence(0, "Otherwise the users share it by the rule, see below.");
        int[] demands = {20, 10, 7};
        // 36 * 20 / 37 is 19, 36 * 10 / 37 is 9, 36 * 7 / 37 is 6: two liters are left.
        edges.dueRow("36 of 37 by rule 0", Rows.shares(0, 36, demands, 1, 1, 1), 20, 10, 6);
        edges.dueRow("36 of 37 by rule 1", Rows.shares(1, 36, demands, 1, 1, 1), 20, 10, 6);
        edges.dueRow("36 of 37 by rule 2", Rows.shares(2, 36, demands, 1, 1, 1), 19, 10, 7);
        edges.dueRow("36 of 37 by rule 3", Rows.shares(3, 36, demands, 1, 1, 1), 19, 10, 7);
    }

    private void whatTheyGetIsTaken() {
        edges.sentence(0, "What they get is taken from the level.");
        for (int rule = 0; rule <= 3; rule++) {
            RainReservoir x = Rows.literARain();
            x.setWays(0, 3, rule);
            x.addUser(30, 1);
            x.addUser(20, 2);
            x.addRain(51, 1);
            x.addRain(48, 1);
            x.run(1);
            edges.due("level of 51 less 50 by rule " + rule, x.setting(10), 1);
            x.run(1);
            edges.due("level of 49 for 50 by rule " + rule, x.setting(10), 0);
            edges.due("got of 49 by rule " + rule, x.day(1, 6), 49);
        }
    }

    /** The level and the mains water after a day with so much rain and a top-up level of 50. */
    private void dueTopUp(int rain, int level, int mains) {
        RainReservoir x = Rows.literARain();
        x.setReservoir(100, 0, 50);
        x.addRain(rain, 1);
        x.run(1);
        edges.due("level of " + rain, x.setting(10), level);
        edges.due("mains water to " + rain, x.day(0, 8), mains);
    }

    private void topUp() {
        edges.sentence(0, "If the level is below the top-up level, mains water brings it to the top-up level.");
        dueTopUp(0, 50, 50);
        dueTopUp(49, 50, 1);
        dueTopUp(50, 50, 0);
        dueTopUp(51, 51, 0);
        RainReservoir x = Rows.literARain();
        x.setReservoir(100, 0, 100);
        x.addUser(40, 1);
        x.addRain(0, 3);
        edges.due("run(3), mains water after the users", x.run(3), 1);
        edges.due("level at the capacity", x.setting(10), 100);
        edges.due("overflow", x.sum(4), 0);
        edges.due("mains water in all", x.sum(8), 180);
    }

    private void shortDay() {
        edges.sentence(0, "The day is short if some user got less than its demand.");
        int[] demands = {20, 10, 7};
        for (int rule = 0; rule <= 3; rule++) {
            edges.due("run(1) with all by rule " + rule, shortDays(rule, 37, demands), 0);
            edges.due("run(1) with one liter less by rule " + rule, shortDays(rule, 36, demands), 1);
            edges.due("run(1) with nothing by rule " + rule, shortDays(rule, 0, demands), 1);
            edges.due("run(1) for demands of 0 by rule " + rule, shortDays(rule, 0, new int[] {0, 0}), 0);
            edges.due("run(1) without users by rule " + rule, shortDays(rule, 0, new int[0]), 0);
        }
    }

    private static long shortDays(int rule, int water, int[] demands) {
        RainReservoir x = Rows.literARain();
        x.setWays(0, 3, rule);
        for (int demand : demands) {
            x.addUser(demand, 1);
        }
        x.addRain(water, 1);
        return x.run(1);
    }

    private void lessThanTheDemands() {
        edges.sentence(0,
            "Rules for shares of the available water A, when it is less than the sum D of the demands:");
        // The rules do not differ with one liter more or when nothing is there.
        for (int rule = 0; rule <= 3; rule++) {
            edges.dueRow("A is D by rule " + rule, Rows.shares(rule, 9, new int[] {5, 4}, 1, 1), 5, 4);
            edges.dueRow("A is 0 by rule " + rule, Rows.shares(rule, 0, new int[] {5, 4}, 1, 1), 0, 0);
        }
        edges.dueRow("A is D - 1 by rule 0", Rows.shares(0, 8, new int[] {4, 5}, 1, 1), 4, 4);
        edges.dueRow("A is D - 1 by rule 1", Rows.shares(1, 8, new int[] {5, 4}, 1, 1), 5, 3);
        edges.dueRow("A is D - 1 by rule 2", Rows.shares(2, 8, new int[] {5, 4}, 1, 1), 5, 3);
        edges.dueRow("A is D - 1 by rule 3", Rows.shares(3, 8, new int[] {5, 4}, 1, 1), 4, 4);
    }

    private void proportions() {
        edges.sentence(0, "in proportion to the demands: each user gets its demand * A / D;");
        edges.dueRow("no liter left", Rows.shares(0, 50, new int[] {20, 60, 0, 20}, 9, 1, 1, 1), 10, 30, 0, 10);
        edges.dueRow("a demand of 0", Rows.shares(0, 1, new int[] {0, 2, 0}, 1, 1, 1), 0, 1, 0);
        edges.dueRow("one user", Rows.shares(0, 199, new int[] {200}, 1), 199);
        RainReservoir x = Stands.roof(500);
        x.setReservoir(60000, 0, 0);
        for (int i = 0; i < 5; i++) {
            x.addUser(9999, 1);
        }
        x.addRain(99, 1);
        x.addRain(100, 1);
        edges.due("run(2), the greatest demands", x.run(2), 1);
        edges.due("got on the first day", x.day(0, 6), 49500);
        edges.due("got on the second day, 50000 for 49995", x.day(1, 6), 49995);
        edges.due("what each had got of 49500", x.user(4, 3) - 9999, 9900);
    }

    private void litersThatAreLeft() {
        edges.sentence(0, "the liters that are left are given one by one to the users in ascending order, one liter "
            + "to each who has got less than its demand, going around until nothing is left.");
        edges.dueRow("one liter left", Rows.shares(0, 7, new int[] {5, 5, 5}, 1, 1, 1), 3, 2, 2);
        edges.dueRow("two liters left", Rows.shares(0, 8, new int[] {5, 5, 5}, 1, 1, 1), 3, 3, 2);
        edges.dueRow("four liters left of four",
            Rows.shares(0, 4, new int[] {1, 1, 1, 1, 1}, 1, 1, 1, 1, 1), 1, 1, 1, 1, 0);
        edges.dueRow("one liter left of one",
            Rows.shares(0, 1, new int[] {1, 1, 1, 1, 1}, 1, 1, 1, 1, 1), 1, 0, 0, 0, 0);
        // 3 * 5 / 6 is 2: a liter is left, and the users who need nothing do not get it.
        edges.dueRow("a liter left behind demands of 0",
            Rows.shares(0, 5, new int[] {0, 0, 3, 3}, 1, 1, 1, 1), 0, 0, 3, 2);
        // The shares are 9.9 and 0.1 of 10: the liter goes to the first one, whatever it lacks.
        edges.dueRow("the liter goes by number", Rows.shares(0, 10, new int[] {100, 1}, 1, 1), 10, 0);
        edges.dueRow("the liter goes by number, turned", Rows.shares(0, 10, new int[] {1, 100}, 1, 1), 1, 9);
    }

    private void byOrder() {
        edges.sentence(0, "by order: the users in ascending order get their demands as long as there is water;");
        int[] demands = {50, 0, 20, 10};
        edges.dueRow("just the first", Rows.shares(1, 50, demands, 1, 9, 9, 9), 50, 0, 0, 0);
        edges.dueRow("the first and a liter", Rows.shares(1, 51, demands, 1, 9, 9, 9), 50, 0, 1, 0);
        edges.dueRow("just the first ones", Rows.shares(1, 70, demands, 1, 9, 9, 9), 50, 0, 20, 0);
        edges.dueRow("nothing", Rows.shares(1, 0, demands, 1, 9, 9, 9), 0, 0, 0, 0);
    }

    private void lastByOrder() {
        edges.sentence(0, "the last of them who gets any gets what is left.");
        int[] demands = {50, 20, 10};
        edges.dueRow("1 liter", Rows.shares(1, 1, demands, 1, 1, 1), 1, 0, 0);
        edges.dueRow("49 liters", Rows.shares(1, 49, demands, 1, 1, 1), 49, 0, 0);
        edges.dueRow("69 liters", Rows.shares(1, 69, demands, 1, 1, 1), 50, 19, 0);
        edges.dueRow("79 liters", Rows.shares(1, 79, demands, 1, 1, 1), 50, 20, 9);
    }

    private void inRounds() {
        edges.sentence(0, "by weights, in rounds: in each round each user who has not got its demand yet, in "
            + "ascending order, gets 10 liters times its weight, but not more than it lacks, and not more than is "
            + "left;");
        int[] demands = {100, 100};
        edges.dueRow("less than a portion", Rows.shares(2, 89, demands, 9, 1), 89, 0);
        edges.dueRow("just a portion", Rows.shares(2, 90, demands, 9, 1), 90, 0);
        edges.dueRow("a portion and a liter", Rows.shares(2, 91, demands, 9, 1), 90, 1);
        edges.dueRow("just a round", Rows.shares(2, 100, demands, 9, 1), 90, 10);
        edges.dueRow("a round and a liter", Rows.shares(2, 101, demands, 9, 1), 91, 10);
        edges.dueRow("the 10 that it lacks", Rows.shares(2, 110, demands, 9, 1), 100, 10);
        edges.dueRow("not more than it lacks", Rows.shares(2, 111, demands, 9, 1), 100, 11);
        edges.dueRow("a demand of just a portion", Rows.shares(2, 30, new int[] {10, 50}, 1, 1), 10, 20);
        edges.dueRow("a demand of a portion and a liter", Rows.shares(2, 30, new int[] {11, 50}, 1, 1), 11, 19);
        edges.dueRow("a demand of a liter less", Rows.shares(2, 30, new int[] {9, 50}, 1, 1), 9, 21);
        edges.dueRow("a demand of 0", Rows.shares(2, 30, new int[] {0, 50}, 9, 1), 0, 30);
        edges.dueRow("a demand of 1", Rows.shares(2, 20, new int[] {1, 50}, 1, 1), 1, 19);
        edges.dueRow("a demand of 1 behind a portion", Rows.shares(2, 11, new int[] {50, 1}, 1, 1), 10, 1);
    }

    /** A day with so much water, of which each user but for one liter gets its demand. */
    private void dueManyRounds(String told, int[] demands, int[] weights, long... got) {
        RainReservoir x = Stands.roof(500);
        int all = 0;
        for (int i = 0; i < demands.length; i++) {
            x.addUser(demands[i], weights[i]);
            all += demands[i];
        }
        x.setReservoir(all - 1, 0, 0);
        x.setWays(0, 3, 2);
        x.addRain(200, 1);
        edges.due("run(1) with " + told, x.run(1), 1);
        edges.dueRow(told, Rows.latest(x), got);
    }

    private void roundsGoOn() {
        edges.sentence(0, "the rounds go on until nothing is left.");
        for (int water = 0; water <= 60; water++) {
            long[] got = Rows.shares(2, water, new int[] {50, 11}, 1, 1);
            edges.due("got of " + water, got[0] + got[1], water);
        }
        RainReservoir x = Stands.roof(100);
        x.setWays(0, 3, 2);
        x.addUser(9999, 1);
        x.addUser(9999, 1);
        x.setReservoir(60000, 0, 0);
        x.addRain(199, 1);
        // 995 rounds of 20 liters.
        x.run(1);
        edges.dueRow("19900 of 19998", Rows.latest(x), 9950, 9950);
        x.setReservoir(19997, 0, 0);
        x.addRain(200, 1);
        // In the last of 1000 rounds the first gets 9 liters, and the second 8 of 9.
        x.run(1);
        edges.dueRow("19997 of 19998", Rows.latest(x), 9999, 9998);
        dueManyRounds("one user", new int[] {9999}, new int[] {1}, 9998);
        dueManyRounds("a user of nothing", new int[] {0, 9999}, new int[] {9, 1}, 0, 9998);
        dueManyRounds("a user of much weight", new int[] {9999, 9999}, new int[] {1, 9}, 9998, 9999);
        dueManyRounds("users who end one after the other", new int[] {9999, 10, 200, 3000, 1},
            new int[] {1, 1, 1, 1, 9}, 9998, 10, 200, 3000, 1);
    }

    private void smallestFirst() {
        edges.sentence(0,
            "smallest first: as by order, but in ascending order of the demands, equal ones by their numbers.");
        edges.dueRow("equal ones", Rows.shares(3, 7, new int[] {5, 5, 5}, 1, 2, 3), 5, 2, 0);
        edges.dueRow("equal ones but for a liter", Rows.shares(3, 7, new int[] {5, 5, 4}, 1, 2, 3), 3, 0, 4);
        edges.dueRow("equal ones behind a smaller", Rows.shares(3, 10, new int[] {6, 5, 6}, 1, 1, 1), 5, 5, 0);
        edges.dueRow("a demand of 0", Rows.shares(3, 5, new int[] {6, 0, 5}, 1, 1, 1), 0, 0, 5);
        edges.dueRow("a liter for the second", Rows.shares(3, 6, new int[] {6, 0, 5}, 1, 1, 1), 1, 0, 5);
        edges.dueRow("five descending", Rows.shares(3, 14, new int[] {5, 4, 3, 2, 1}, 1, 1, 1, 1, 1), 4, 4, 3, 2, 1);
        edges.dueRow("nothing", Rows.shares(3, 0, new int[] {2, 1}, 1, 1), 0, 0);
        edges.dueRow("the middle one last", Rows.shares(3, 5, new int[] {1, 3, 2}, 1, 1, 1), 1, 2, 2);
        edges.dueRow("the middle one first", Rows.shares(3, 5, new int[] {2, 3, 1}, 1, 1, 1), 2, 2, 1);
        edges.dueRow("equal ones last", Rows.shares(3, 6, new int[] {1, 4, 4}, 1, 1, 1), 1, 4, 1);
        anotherOrder();
    }

    /** The order of a day is that of the demands then, whatever it was on the day before. */
    private void anotherOrder() {
        RainReservoir x = Rows.literARain();
        x.addUser(3, 1);
        x.addUser(2, 1);
        x.addUser(1, 1);
        x.setWays(0, 3, 3);
        x.addRain(5, 3);
        x.run(1);
        edges.dueRow("descending demands", Rows.latest(x), 2, 2, 1);
        x.run(1);
        edges.dueRow("the same demands again", Rows.latest(x), 2, 2, 1);
        x.setDemand(0, 2);
        x.setDemand(2, 4);
        x.run(1);
        edges.dueRow("other demands", Rows.latest(x), 2, 2, 1);
    }
}
