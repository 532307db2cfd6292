/** Boundary cases of promises 13 to 18. */
final class RunEdges {
    private final Edges edges;

    RunEdges(Edges edges) {
        this.edges = edges;
    }

    void run() {
        doDays();
        shortDaysOfTheRun();
        tooManyDays();
        restart();
        day();
        dayRefused();
        sum();
        reliability();
        longestShortage();
    }

    /** A user of 10 liters, and a day for each rain, of which each millimeter is a liter. */
    private static RainReservoir needing10(String rains) {
        RainReservoir x = Rows.literARain();
        x.addUser(10, 1);
        Rows.append(x, rains);
        x.parse();
        return x;
    }

    private void doDays() {
        daysAreDone();
        runUndoable();
        runRange();
    }

    private void daysAreDone() {
        edges.sentence(13, "Does days.");
        RainReservoir x = needing10("10;11;12;");
        x.run(0);
        edges.due("days done behind run(0)", x.setting(9), 0);
        x.run(1);
        edges.due("days done behind run(1)", x.setting(9), 1);
        x.run(2);
        edges.due("days done behind run(2)", x.setting(9), 3);
        edges.due("level", x.setting(10), 3);
    }

    private void runUndoable() {
        edges.sentence(13, "Undoable.");
        edges.undoable("run(0)", Stands::fresh, y -> y.run(0));
        edges.undoable("run(1)", Stands::midst, y -> y.run(1));
        edges.undoable("run() of 30 days", Stands::full, y -> y.run(30));
    }

    private void runRange() {
        edges.sentence(13, "`days`: 0 to 100");
        edges.due("run(0)", Stands.midst().run(0), 0);
        RainReservoir all = new RainReservoir();
        all.addRain(1, 100);
        edges.due("run(100)", all.run(100), 0);
        edges.due("days done", all.setting(9), 100);
        edges.refusedArgument("run(-1)", Stands::midst, y -> y.run(-1));
        edges.refusedArgument("run(101)", RunEdges::hundredDays, y -> y.run(101));
    }

    private static RainReservoir hundredDays() {
        RainReservoir x = needing10("9x50;11x50;");
        x.run(0);
        return x;
    }

    private void shortDaysOfTheRun() {
        edges.sentence(13, "Returns the number of those days that were short.");
        RainReservoir x = needing10("9;10;9x2;10;");
        edges.due("run(0) of no day", x.run(0), 0);
        edges.due("run(1) of a short day", x.run(1), 1);
        edges.due("run(1) of a day that is not short", x.run(1), 0);
        edges.due("run(0) behind a short day", x.run(0), 0);
        edges.due("run(3), without the days before", x.run(3), 2);
        RainReservoir none = needing10("0x99;0;");
        edges.due("run(100), all short", none.run(100), 100);
        RainReservoir enough = needing10("10x99;10;");
        edges.due("run(100), none short", enough.run(100), 0);
    }

    private void tooManyDays() {
        runOutOfRange();
        runBeyondTheRains();
    }

    private void runOutOfRange() {
        edges.sentence(13, "Throws `IllegalArgumentException` if days is out of range");
        edges.outside("run()", Stands::fresh, 0, 100, (y, v) -> y.run(v));
        edges.outside("run()", RunEdges::hundredDays, 0, 100, (y, v) -> y.run(v));
        edges.outside("run()", Stands::ended, 0, 100, (y, v) -> y.run(v));
    }

    private void runBeyondTheRains() {
        edges.sentence(13, "Throws `IllegalStateException` if there are not so many days of rain that are not done");
        int left = Stands.midst().setting(8) - Stands.midst().setting(9);
        RainReservoir x = Stands.midst();
        x.run(left);
        edges.due("days done behind run() of all that are left", x.setting(9), x.setting(8));
        edges.refusedState("run() of one more than are left", Stands::midst, y -> y.run(left + 1));
        edges.refusedState("run(100) of fewer", Stands::midst, y -> y.run(100));
        edges.refusedState("run(1) without days of rain", Stands::fresh, y -> y.run(1));
        edges.refusedState("run(1) when all days are done", Stands::ended, y -> y.run(1));
        edges.refusedState("run(100) with 30 left of 100", Stands::full, y -> y.run(100));
        edges.refusedState("run(31) with 30 left of 100", Stands::full, y -> y.run(31));
        edges.due("run(0) when all days are done", Stands.ended().run(0), 0);
    }

    private void restart() {
        goesBack();
        restartUndoable();
        restartAnswer();
    }

    private void goesBack() {
        edges.sentence(14, "Goes back to day 0: no day is done, the level, the dry days in a row, the diverters and "
            + "all amounts are 0 (also the overflow that belongs to no day).");
        RainReservoir x = Stands.midst();
        edges.due("overflow that belongs to no day, before", x.sum(4) - x.day(7, 4), 1455);
        x.restart();
        edges.dueRow("settings", Rows.settings(x), 700, 10, 80, 13, 2, 0, 2, 3, 14, 0, 0, 0);
        edges.dueRow("roof 0", Rows.roof(x, 0), 120, 90, 60, 900, 0);
        edges.dueRow("roof 1", Rows.roof(x, 1), 35, 77, 0, 50, 0);
        edges.dueRow("user 0", Rows.user(x, 0), 30, 2, 0, 0);
        edges.dueRow("user 2", Rows.user(x, 2), 333, 1, 0, 0);
        edges.dueRow("sums", Rows.sums(x), 0, 0, 0, 0, 0, 0, 0, 0, 0);
        edges.dueDouble("reliability()", x.reliability(), 1.0);
        edges.due("longestShortage()", x.longestShortage(), 0);
        edges.refusedIndex("day(0, 0)", RunEdges::restarted, y -> y.day(0, 0));
        sameDaysAgain();
    }

    private void restartUndoable() {
        edges.sentence(14, "Undoable.");
        edges.undoable("restart() of a new object", Stands::fresh, y -> y.restart());
        edges.undoable("restart() of all days", Stands::ended, y -> y.restart());
        edges.undoable("restart() behind restart()", RunEdges::restarted, y -> y.restart());
    }

    private void restartAnswer() {
        edges.sentence(14, "Returns the number of days that were done.");
        edges.due("restart() of a new object", new RainReservoir().restart(), 0);
        edges.due("restart() behind restart()", restarted().restart(), 0);
        edges.due("restart() behind 10 days", Stands.midst().restart(), 10);
        RainReservoir all = hundredDays();
        all.run(100);
        edges.due("restart() behind 100 days", all.restart(), 100);
    }

    private static RainReservoir restarted() {
        RainReservoir x = Stands.midst();
        x.restart();
        return x;
    }

    /** What is done behind restart() is the same as on an object that has done no day. */
    private void sameDaysAgain() {
        RainReservoir x = hundredDays();
        x.setWays(10, 2, 0);
        x.run(60);
        x.setReservoir(100, 0, 20);
        x.restart();
        x.run(60);
        RainReservoir twin = hundredDays();
        twin.setWays(10, 2, 0);
        twin.setReservoir(100, 0, 20);
        twin.restart();
        twin.restart();
        twin.run(60);
        edges.due("digest() behind restart() and run()", x.digest(), twin.digest());
    }

    private void day() {
        dayReads();
        dayNumber();
        dayValues();
        leastAndGreatestDay();
    }

    private void dayReads() {
        edges.sentence(15, "Returns something about a day that is done.");
        edges.unchanged("day()", Stands::midst, y -> y.day(0, 0) + y.day(9, 9));
    }

    private void dayNumber() {
        edges.sentence(15, "`day`: number of a day");
        RainReservoir x = needing10("10;11x98;13;");
        x.run(100);
        edges.due("inflow of day 0", x.day(0, 1), 10);
        edges.due("inflow of day 99", x.day(99, 1), 13);
        edges.refusedIndex("day(-1, 1)", Stands::midst, y -> y.day(-1, 1));
        edges.refusedIndex("day(10, 1) of 10", Stands::midst, y -> y.day(10, 1));
    }

    private void dayValues() {
        edges.sentence(15, "`what`: 0 the level at its end, 1 the inflow, 2 what the diverters took, 3 what was "
            + "spilled, 4 what overflowed, 5 what evaporated, 6 what the users got, 7 what they lacked (the sum of "
            + "the demands minus what they got), 8 the mains water, 9 what was drained from diverters");
        RainReservoir y = needing10("0;");
        y.addRoof(100, 90, 200, 2000);
        y.addUser(1390, 1);
        y.setReservoir(1500, 100, 300);
        y.setWays(20, 1, 0);
        y.addRain(30, 1);
        y.addRain(0, 1);
        y.run(2);
        y.setDemand(1, 9999);
        y.run(1);
        // 2700 + 30 caught, 200 diverted, 500 spilled; 530 overflow behind the 300, 30 evaporate.
        edges.dueRow("day 1", Rows.day(y, 1), 300, 2030, 200, 500, 830, 30, 1370, 30, 200, 0);
        edges.dueRow("day 2", Rows.day(y, 2), 300, 0, 0, 0, 0, 6, 194, 9815, 200, 200);
        edges.refusedArgument("day(0, -1)", Stands::midst, z -> z.day(0, -1));
        edges.refusedArgument("day(0, 10)", Stands::midst, z -> z.day(0, 10));
    }

    private void leastAndGreatestDay() {
        edges.sentence(15, "Returns that value.");
        RainReservoir dry = new RainReservoir();
        dry.addRain(0, 1);
        dry.run(1);
        edges.dueRow("a day without anything", Rows.day(dry, 0), 0, 0, 0, 0, 0, 0, 0, 0, 0, 0);
        greatestDay();
    }

    private void greatestDay() {
        RainReservoir x = new RainReservoir();
        for (int i = 0; i < 6; i++) {
            x.addRoof(500, 100, 999, 50000);
        }
        for (int i = 0; i < 5; i++) {
            x.addUser(9999, 9);
        }
        x.setReservoir(60000, 60000, 60000);
        x.setWays(100, 1, 0);
        x.addRain(200, 1);
        x.addRain(0, 1);
        x.run(2);
        edges.dueRow("the greatest day", Rows.day(x, 0),
            60000, 300000, 5994, 294006, 240000, 6000, 0, 49995, 6000, 0);
        edges.dueRow("a dry day behind it", Rows.day(x, 1), 60000, 0, 0, 0, 0, 6000, 0, 49995, 6000, 5994);
    }

    private void dayRefused() {
        noSuchDay();
        dayOutOfRange();
    }

    private void noSuchDay() {
        edges.sentence(15, "Throws `IndexOutOfBoundsException` if there is no such day, or it is not done");
        edges.outsideIndex("day()", Stands::fresh, 0, (y, v) -> y.day(v, 0));
        edges.outsideIndex("day()", Stands::midst, 10, (y, v) -> y.day(v, 0));
        edges.outsideIndex("day()", Stands::full, 70, (y, v) -> y.day(v, 9));
        edges.outsideIndex("day()", Stands::ended, 14, (y, v) -> y.day(v, 10));
        edges.refusedIndex("the last day of rain, not done", Stands::full, y -> y.day(99, 0));
        edges.refusedIndex("day(100, 0)", Stands::full, y -> y.day(100, 0));
        edges.refusedIndex("a day that is undone", () -> {
            RainReservoir x = Stands.midst();
            x.undo();
            return x;
        }, y -> y.day(7, 0));
    }

    private void dayOutOfRange() {
        edges.sentence(15, "Throws `IllegalArgumentException` if what is out of range");
        edges.outside("day(0, ..)", Stands::midst, 0, 9, (y, v) -> y.day(0, v));
        edges.outside("day(69, ..)", Stands::full, 0, 9, (y, v) -> y.day(69, v));
    }

    private void sum() {
        sumOfAllDays();
        sumValues();
        greatestSums();
        sumOutOfRange();
    }

    private void sumOfAllDays() {
        edges.sentence(16, "Returns a sum over all days done.");
        edges.unchanged("sum()", Stands::midst, y -> y.sum(1) + y.sum(9));
        edges.dueRow("sums without days", Rows.sums(new RainReservoir()), 0, 0, 0, 0, 0, 0, 0, 0, 0);
        RainReservoir x = needing10("9;11;10;200;");
        x.run(1);
        edges.dueRow("sums of one day", Rows.sums(x), 9, 0, 0, 0, 0, 9, 1, 0, 0);
        x.run(2);
        edges.dueRow("sums of three days", Rows.sums(x), 30, 0, 0, 0, 0, 29, 1, 0, 0);
    }

    private void sumValues() {
        edges.sentence(16, "`what`: as for day(), 1 to 9 (for 4 with the overflow that belongs to no day)");
        RainReservoir x = needing10("9;11;10;200;");
        x.run(3);
        x.addRoof(20, 100, 30, 3000);
        x.setReservoir(150, 0, 0);
        x.run(1);
        // 200 and 4000 come, 30 and 970 of these do not flow in; 3051 overflow.
        edges.dueRow("sums with an overflow", Rows.sums(x), 3230, 30, 970, 3051, 0, 39, 1, 0, 0);
        x.setReservoir(100, 0, 0);
        edges.dueRow("sums with an overflow of no day", Rows.sums(x), 3230, 30, 970, 3091, 0, 39, 1, 0, 0);
        edges.refusedArgument("sum(0)", Stands::midst, y -> y.sum(0));
        edges.refusedArgument("sum(10)", Stands::midst, y -> y.sum(10));
    }

    private void greatestSums() {
        edges.sentence(16, "Returns that sum.");
        RainReservoir great = new RainReservoir();
        for (int i = 0; i < 6; i++) {
            great.addRoof(500, 100, 0, 50000);
        }
        great.setReservoir(100, 0, 0);
        great.addRain(200, 100);
        great.run(100);
        edges.dueRow("the greatest sums", Rows.sums(great), 30000000, 0, 30000000, 29999900, 0, 0, 0, 0, 0);
    }

    private void sumOutOfRange() {
        edges.sentence(16, "Throws `IllegalArgumentException` if what is out of range");
        edges.outside("sum()", Stands::fresh, 1, 9, (y, v) -> y.sum(v));
        edges.outside("sum()", Stands::full, 1, 9, (y, v) -> y.sum(v));
    }

    private void reliability() {
        shareOfDays();
        quotient();
        reliabilityWithoutDays();
    }

    private void shareOfDays() {
        edges.sentence(17, "Returns the share of the days done that were not short.");
        edges.unchanged("reliability()", Stands::midst, y -> (long) y.reliability());
        RainReservoir x = needing10("9;10;");
        x.run(1);
        edges.dueDouble("a short day", x.reliability(), 0.0);
        x.run(1);
        edges.dueDouble("one of two", x.reliability(), 0.5);
    }

    private void quotient() {
        edges.sentence(17, "Returns their number, converted to double, divided by the number of days done, "
            + "converted to double;");
        RainReservoir x = needing10("9;10x98;9;");
        x.run(3);
        edges.dueDouble("two of three", x.reliability(), 2.0 / 3.0);
        x.run(96);
        edges.dueDouble("98 of 99", x.reliability(), 98.0 / 99.0);
        x.run(1);
        edges.dueDouble("98 of 100", x.reliability(), 0.98);
        RainReservoir all = needing10("10x99;10;");
        all.run(100);
        edges.dueDouble("100 of 100", all.reliability(), 1.0);
    }

    private void reliabilityWithoutDays() {
        edges.sentence(17, "1.0 if no day is done.");
        edges.dueDouble("a new object", new RainReservoir().reliability(), 1.0);
        edges.dueDouble("no day of those of rain", needing10("0;").reliability(), 1.0);
        RainReservoir restarted = needing10("0;");
        restarted.run(1);
        restarted.restart();
        edges.dueDouble("behind restart()", restarted.reliability(), 1.0);
        RainReservoir undone = needing10("0;");
        undone.run(1);
        undone.undo();
        edges.dueDouble("behind undo()", undone.reliability(), 1.0);
    }

    private void dueLongest(String rains, int longest) {
        RainReservoir x = needing10(rains);
        x.run(x.setting(8));
        edges.due("longestShortage() of " + rains, x.longestShortage(), longest);
    }

    private void longestShortage() {
        longestSequence();
        numberOfShortDays();
    }

    private void longestSequence() {
        edges.sentence(18, "Returns the longest sequence of days done, one after the other, that were short.");
        edges.unchanged("longestShortage()", Stands::midst, y -> y.longestShortage());
        dueLongest("9x3;10;9x2;", 3);
        dueLongest("9x2;10;9x3;", 3);
        dueLongest("9x2;10;9x2;", 2);
        dueLongest("9;10;9;10;9;", 1);
        RainReservoir x = needing10("9x4;");
        x.run(2);
        edges.due("longestShortage() of the two done", x.longestShortage(), 2);
        x.run(2);
        edges.due("longestShortage() of two runs", x.longestShortage(), 4);
    }

    private void numberOfShortDays() {
        edges.sentence(18, "Returns the number of these days.");
        edges.due("longestShortage() of a new object", new RainReservoir().longestShortage(), 0);
        edges.due("longestShortage() of no day done", needing10("9;").longestShortage(), 0);
        dueLongest("10;", 0);
        dueLongest("9;", 1);
        dueLongest("10x99;9;", 1);
        dueLongest("9;10x99;", 1);
        dueLongest("9x99;9;", 100);
    }
}
