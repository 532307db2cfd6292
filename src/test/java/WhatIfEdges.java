/** Boundary cases of promises 19 to 23: all days of rain, on a copy that has gone back to day 0. */
final class WhatIfEdges {
    private final Edges edges;

    WhatIfEdges(Edges edges) {
        this.edges = edges;
    }

    void run() {
        shortDaysWith();
        floorAndTopUpAbove();
        capacityRange();
        capacityFor();
        capacityForAnswers();
        bestRule();
        lowestRule();
        sustainable();
        sustainableLeast();
        gutterLoss();
        gutterLossAmount();
    }

    /** 2000 liters on the first day, none on the three days behind it, and a demand of 700. */
    private static RainReservoir oneRain() {
        RainReservoir x = Stands.roof(100);
        x.addUser(700, 1);
        x.addRain(20, 1);
        x.addRain(0, 3);
        return x;
    }

    /** The answer is the same before and behind days that are done. */
    private void dueWhenever(String told, Edges.Maker maker, Edges.Call call, long want) {
        edges.due(told, call.on(maker.make()), want);
        RainReservoir one = maker.make();
        one.run(Math.min(1, one.setting(8)));
        edges.due(told + " behind a day", call.on(one), want);
        RainReservoir all = maker.make();
        all.run(all.setting(8));
        edges.due(told + " behind all days", call.on(all), want);
        edges.due(told + " once more", call.on(all), want);
    }

    private void shortDaysWith() {
        edges.sentence(19, "Tells how many days would be short with another capacity.");
        dueWhenever("shortDaysWith(699)", WhatIfEdges::oneRain, x -> x.shortDaysWith(699), 4);
        dueWhenever("shortDaysWith(700)", WhatIfEdges::oneRain, x -> x.shortDaysWith(700), 3);
        dueWhenever("shortDaysWith(1399)", WhatIfEdges::oneRain, x -> x.shortDaysWith(1399), 3);
        dueWhenever("shortDaysWith(1400)", WhatIfEdges::oneRain, x -> x.shortDaysWith(1400), 2);
        edges.unchanged("shortDaysWith() in the midst", Stands::midst, x -> x.shortDaysWith(300));
        edges.unchanged("shortDaysWith() of a full object", Stands::full, x -> x.shortDaysWith(60000));
        RainReservoir full = oneRain();
        full.run(1);
        full.setReservoir(100, 0, 0);
        edges.due("shortDaysWith(1400) behind a smaller capacity", full.shortDaysWith(1400), 2);
    }

    private void floorAndTopUpAbove() {
        edges.sentence(19, "(A pump floor or a top-up level above it would be the capacity.)");
        RainReservoir floor = oneRain();
        floor.setDemand(0, 1);
        floor.setReservoir(10000, 500, 0);
        edges.due("with the floor above the capacity", floor.shortDaysWith(499), 4);
        edges.due("with the floor at the capacity", floor.shortDaysWith(500), 4);
        edges.due("with the floor a liter below the capacity", floor.shortDaysWith(501), 3);
        RainReservoir topUp = new RainReservoir();
        topUp.addUser(150, 1);
        topUp.addRain(0, 3);
        topUp.setReservoir(1000, 0, 151);
        edges.due("with the top-up level above the capacity", topUp.shortDaysWith(150), 1);
        edges.due("with the top-up level far above the capacity", topUp.shortDaysWith(149), 3);
        edges.due("with the top-up level at the capacity", topUp.shortDaysWith(151), 1);
        edges.due("with the top-up level below the capacity", topUp.shortDaysWith(60000), 1);
        topUp.setReservoir(1000, 1000, 1000);
        edges.due("with both above the capacity", topUp.shortDaysWith(100), 3);
        edges.due("the floor stays", topUp.setting(1), 1000);
        edges.due("the top-up level stays", topUp.setting(2), 1000);
    }

    private void capacityRange() {
        shortDaysWithRange();
        numberOfShortDays();
        shortDaysWithOutOfRange();
    }

    private void shortDaysWithRange() {
        edges.sentence(19, "`capacity`: 100 to 60000");
        RainReservoir x = Stands.roof(100);
        x.addUser(100, 1);
        x.addRain(1, 1);
        edges.due("shortDaysWith(100)", x.shortDaysWith(100), 0);
        x.setDemand(0, 101);
        edges.due("shortDaysWith(100) for 101 liters", x.shortDaysWith(100), 1);
        edges.due("shortDaysWith(60000)", x.shortDaysWith(60000), 1);
        edges.refusedArgument("shortDaysWith(99)", Stands::midst, y -> y.shortDaysWith(99));
        edges.refusedArgument("shortDaysWith(60001)", Stands::midst, y -> y.shortDaysWith(60001));
    }

    private void numberOfShortDays() {
        edges.sentence(19, "Returns the number of days.");
        edges.due("without days of rain", new RainReservoir().shortDaysWith(100), 0);
        RainReservoir all = new RainReservoir();
        all.addUser(1, 1);
        all.addRain(0, 100);
        edges.due("all of 100 days", all.shortDaysWith(60000), 100);
        all.setDemand(0, 0);
        edges.due("none of 100 days", all.shortDaysWith(100), 0);
    }

    private void shortDaysWithOutOfRange() {
        edges.sentence(19, "Throws `IllegalArgumentException` if capacity is out of range");
        edges.outside("shortDaysWith()", Stands::fresh, 100, 60000, (y, v) -> y.shortDaysWith(v));
        edges.outside("shortDaysWith()", Stands::full, 100, 60000, (y, v) -> y.shortDaysWith(v));
    }

    /** 3000 liters on the first day, for so many liters on this day and the next. */
    private static RainReservoir twoDays(int demand) {
        RainReservoir x = Stands.roof(500);
        x.addUser(demand, 1);
        x.addRain(6, 1);
        x.addRain(0, 1);
        return x;
    }

    private void capacityFor() {
        smallestCapacity();
        capacityForRange();
    }

    private void smallestCapacity() {
        edges.sentence(20,
            "Finds the smallest capacity with which at most so many days would be short, as by shortDaysWith().");
        dueWhenever("capacityFor(4)", WhatIfEdges::oneRain, x -> x.capacityFor(4), 500);
        dueWhenever("capacityFor(3)", WhatIfEdges::oneRain, x -> x.capacityFor(3), 1000);
        dueWhenever("capacityFor(2)", WhatIfEdges::oneRain, x -> x.capacityFor(2), 1500);
        dueWhenever("capacityFor(1)", WhatIfEdges::oneRain, x -> x.capacityFor(1), -1);
        dueWhenever("capacityFor(0), two days of 500", () -> twoDays(500), x -> x.capacityFor(0), 1000);
        dueWhenever("capacityFor(0), two days of 501", () -> twoDays(501), x -> x.capacityFor(0), 1500);
        edges.unchanged("capacityFor(0) in the midst", Stands::midst, x -> x.capacityFor(0));
        edges.unchanged("capacityFor(100) of a full object", Stands::full, x -> x.capacityFor(100));
    }

    private void capacityForRange() {
        edges.sentence(20, "`days`: 0 to 100");
        RainReservoir dry = new RainReservoir();
        dry.addUser(1, 1);
        dry.addRain(0, 100);
        edges.due("capacityFor(100), all days short", dry.capacityFor(100), 500);
        edges.due("capacityFor(99), all days short", dry.capacityFor(99), -1);
        dry.setDemand(0, 0);
        edges.due("capacityFor(0), no day short", dry.capacityFor(0), 500);
        edges.refusedArgument("capacityFor(-1)", Stands::midst, x -> x.capacityFor(-1));
        edges.refusedArgument("capacityFor(101)", Stands::midst, x -> x.capacityFor(101));
    }

    /** A rain that fills any reservoir, for four users who need so much on two days. */
    private static RainReservoir greatDemand(int fourth) {
        RainReservoir x = Stands.roof(500);
        x.addRoof(500, 100, 0, 50000);
        for (int i = 0; i < 3; i++) {
            x.addUser(9999, 1);
        }
        x.addUser(fourth, 1);
        x.addRain(200, 1);
        x.addRain(0, 1);
        return x;
    }

    private void capacityForAnswers() {
        leastAndGreatestCapacity();
        noCapacity();
        capacityForOutOfRange();
    }

    private void leastAndGreatestCapacity() {
        edges.sentence(20, "Returns the smallest one of 500, 1000, 1500, .., 60000;");
        edges.due("capacityFor(0) without days of rain", new RainReservoir().capacityFor(0), 500);
        edges.due("capacityFor(0), two days of 250", twoDays(250).capacityFor(0), 500);
        edges.due("capacityFor(0), two days of 251", twoDays(251).capacityFor(0), 1000);
        edges.due("capacityFor(0), two days of 30000", greatDemand(3).capacityFor(0), 60000);
    }

    private void noCapacity() {
        edges.sentence(20, "NONE if there is none of these.");
        edges.due("capacityFor(0), two days of 30001", greatDemand(4).capacityFor(0), RainReservoir.NONE);
        edges.due("capacityFor(1), two days of 30001", greatDemand(4).capacityFor(1), 30500);
    }

    private void capacityForOutOfRange() {
        edges.sentence(20, "Throws `IllegalArgumentException` if days is out of range");
        edges.outside("capacityFor()", Stands::fresh, 0, 100, (y, v) -> y.capacityFor(v));
        edges.outside("capacityFor()", Stands::full, 0, 100, (y, v) -> y.capacityFor(v));
    }

    /** So much water on one day, for users of 50 and 100 liters with the weights 3 and 9. */
    private static RainReservoir weighed(int water) {
        return twoUsers(water, 50, 3, 100, 9);
    }

    private static RainReservoir twoUsers(int water, int demand, int weight, int other, int otherWeight) {
        RainReservoir x = Rows.literARain();
        x.addUser(demand, weight);
        x.addUser(other, otherWeight);
        x.addRain(water, 1);
        return x;
    }

    private void bestRule() {
        edges.sentence(21, "Finds the fairest rule: the one with which the user who would lack most (its demand times "
            + "the number of days of rain, minus what it would get in all) would lack least.");
        // By the rules 0 to 3 the greatest lacks are 40, 59, 39, 59.
        dueWhenever("bestRule(), a liter less by rule 2", () -> weighed(91), x -> x.bestRule(), 2);
        // They are 16, 15, 18, 18.
        dueWhenever("bestRule(), a liter less by rule 1", () -> twoUsers(15, 30, 1, 3, 1), x -> x.bestRule(), 1);
        edges.unchanged("bestRule() in the midst", Stands::midst, x -> x.bestRule());
        edges.unchanged("bestRule() of a full object", Stands::full, x -> x.bestRule());
        RainReservoir x = weighed(91);
        x.run(1);
        x.addRain(200, 1);
        edges.due("bestRule() with a day behind those done", x.bestRule(), 2);
        x.setDemand(1, 0);
        edges.due("bestRule() with the demands of now", x.bestRule(), 0);
        RainReservoir floor = weighed(191);
        floor.setReservoir(10000, 100, 0);
        edges.due("bestRule() with a floor", floor.bestRule(), 2);
    }

    private void lowestRule() {
        edges.sentence(21, "Returns the rule, of several the lowest one.");
        edges.due("bestRule() of a new object", new RainReservoir().bestRule(), 0);
        edges.due("without days of rain", withoutRains().bestRule(), 0);
        edges.due("without users", Stands.roof(1).bestRule(), 0);
        // By the rules 0 to 3 the greatest lacks are 40, 60, 40, 60.
        edges.due("rules 0 and 2 alike", weighed(90).bestRule(), 0);
        // They are 16, 15, 15, 18.
        edges.due("rules 1 and 2 alike", twoUsers(15, 30, 9, 3, 1).bestRule(), 1);
        RainReservoir enough = weighed(150);
        enough.setWays(0, 3, 3);
        edges.due("nobody lacks anything", enough.bestRule(), 0);
        RainReservoir dry = weighed(0);
        dry.setWays(0, 3, 2);
        edges.due("nobody gets anything", dry.bestRule(), 0);
        edges.due("one user", oneRain().bestRule(), 0);
    }

    private static RainReservoir withoutRains() {
        RainReservoir x = Stands.roof(1);
        x.addUser(5, 1);
        x.addUser(6, 9);
        return x;
    }

    /** One day with so much rain, on 100 square meters. */
    private static RainReservoir oneDay(int rain, int demand) {
        RainReservoir x = Stands.roof(100);
        x.setReservoir(60000, 0, 0);
        x.addUser(demand, 1);
        x.addRain(rain, 1);
        return x;
    }

    private void sustainable() {
        edges.sentence(22, "Finds how much all demands could be raised or would have to be lowered so that no day is "
            + "short: the greatest percentage p of 5, 10, 15, .., 300 such that no day would be short with the "
            + "demands demand * p / 100 (rounded down, also above 9999).");
        edges.due("200 liters for 200", oneDay(2, 200).sustainable(), 100);
        edges.due("200 liters for 201, of which 95 percent are 190", oneDay(2, 201).sustainable(), 95);
        edges.due("200 liters for 199, of which 100 percent are 199", oneDay(2, 199).sustainable(), 100);
        edges.due("200 liters for 191, of which 105 percent are 200.55", oneDay(2, 191).sustainable(), 105);
        edges.due("200 liters for 192, of which 105 percent are 201.6", oneDay(2, 192).sustainable(), 100);
        // 9999 times three are 29997.
        RainReservoir great = oneDay(200, 9999);
        edges.due("20000 liters for 9999", great.sustainable(), 200);
        great.addRoof(50, 100, 3, 50000);
        edges.due("29997 liters for 9999", great.sustainable(), 300);
        great.setWays(1, 3, 0);
        edges.due("29968 liters for 9999", great.sustainable(), 295);
        dueWhenever("sustainable(), one of the days without rain", WhatIfEdges::oneRain, x -> x.sustainable(), 70);
        edges.unchanged("sustainable() in the midst", Stands::midst, x -> x.sustainable());
        edges.unchanged("sustainable() of a full object", Stands::full, x -> x.sustainable());
    }

    private void sustainableLeast() {
        leastAndGreatestPercentage();
        noPercentage();
    }

    private void leastAndGreatestPercentage() {
        edges.sentence(22, "Returns the percentage;");
        edges.due("of a new object", new RainReservoir().sustainable(), 300);
        edges.due("without users", Stands.roof(1).sustainable(), 300);
        edges.due("without days of rain", withoutRains().sustainable(), 300);
        edges.due("demands of 0 without water", oneDay(0, 0).sustainable(), 300);
        edges.due("300 liters for 100", oneDay(3, 100).sustainable(), 300);
        edges.due("300 liters for 101", oneDay(3, 101).sustainable(), 295);
        edges.due("100 liters for 2000", oneDay(1, 2000).sustainable(), 5);
        edges.due("100 liters for 2019", oneDay(1, 2019).sustainable(), 5);
        edges.due("no water for 19, of which 5 percent are 0", oneDay(0, 19).sustainable(), 5);
    }

    private void noPercentage() {
        edges.sentence(22, "NONE if there is none of these.");
        edges.due("100 liters for 2020", oneDay(1, 2020).sustainable(), RainReservoir.NONE);
        edges.due("no water for 20", oneDay(0, 20).sustainable(), RainReservoir.NONE);
        RainReservoir second = oneDay(200, 20);
        second.setReservoir(100, 100, 0);
        edges.due("no water above the floor", second.sustainable(), RainReservoir.NONE);
    }

    private void gutterLoss() {
        gutterLimit();
        gutterLossRoof();
    }

    private void gutterLimit() {
        edges.sentence(23, "Tells how much more would flow in, in all, without a roof's gutter limit.");
        edges.unchanged("gutterLoss() in the midst", Stands::midst, x -> x.gutterLoss(0));
        edges.unchanged("gutterLoss() of a full object", Stands::full, x -> x.gutterLoss(5));
        dueWhenever("gutterLoss(0)", WhatIfEdges::threeRoofs, x -> x.gutterLoss(0), 0);
        dueWhenever("gutterLoss(1)", WhatIfEdges::threeRoofs, x -> x.gutterLoss(1), 1);
        dueWhenever("gutterLoss(2)", WhatIfEdges::threeRoofs, x -> x.gutterLoss(2), 69 + 79 + 89);
    }

    private void gutterLossRoof() {
        edges.sentence(23, "`roof`: number of a roof");
        // The diverters are full before the 15 days with a rain of 200.
        edges.due("gutterLoss(0) of the first", Stands.full().gutterLoss(0), 15 * 50000);
        edges.due("gutterLoss(5) of the last", Stands.full().gutterLoss(5), 15 * (495 * 2 * 95 - 49995));
        edges.refusedIndex("gutterLoss(-1)", Stands::midst, x -> x.gutterLoss(-1));
        edges.refusedIndex("gutterLoss(2) of two", Stands::midst, x -> x.gutterLoss(2));
    }

    /** Roofs whose gutters spill nothing, one liter, and nearly all. */
    private static RainReservoir threeRoofs() {
        RainReservoir x = new RainReservoir();
        x.addRoof(10, 100, 0, 100);
        x.addRoof(10, 100, 0, 99);
        x.addRoof(10, 100, 20, 1);
        Rows.append(x, "9;0x3;10;0x2;9;");
        x.parse();
        return x;
    }

    private void gutterLossAmount() {
        spilledInAllDays();
        gutterLossWithoutRoof();
    }

    private void spilledInAllDays() {
        edges.sentence(23, "Returns the amount that is spilled at this roof in all days of rain.");
        edges.due("without days of rain", Stands.roof(500).gutterLoss(0), 0);
        RainReservoir great = new RainReservoir();
        great.addRoof(500, 100, 0, 1);
        great.addRain(200, 100);
        edges.due("the greatest loss", great.gutterLoss(0), 9999900);
        RainReservoir drained = new RainReservoir();
        drained.addRoof(1, 100, 5, 5);
        Rows.append(drained, "10;0x2;11;0x3;11;");
        drained.parse();
        edges.due("the diverter drained once", drained.gutterLoss(0), 7);
        drained.setWays(0, 2, 0);
        edges.due("the diverter drained twice", drained.gutterLoss(0), 2);
        drained.setWays(0, 4, 0);
        edges.due("the diverter never drained", drained.gutterLoss(0), 12);
        drained.run(8);
        edges.due("the amount when all days are done", drained.gutterLoss(0), drained.sum(3));
        drained.addRain(200, 1);
        edges.due("a day of rain that is not done", drained.gutterLoss(0), 12 + 195);
    }

    private void gutterLossWithoutRoof() {
        edges.sentence(23, "Throws `IndexOutOfBoundsException` if there is no such roof");
        edges.outsideIndex("gutterLoss()", Stands::fresh, 0, (y, v) -> y.gutterLoss(v));
        edges.outsideIndex("gutterLoss()", Stands::midst, 2, (y, v) -> y.gutterLoss(v));
        edges.outsideIndex("gutterLoss()", Stands::full, 6, (y, v) -> y.gutterLoss(v));
    }
}
