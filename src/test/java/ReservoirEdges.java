/** Boundary cases of promises 1, 5, 6 and 7: the new object, the reservoir and its ways. */
final class ReservoirEdges {
    private final Edges edges;

    ReservoirEdges(Edges edges) {
        this.edges = edges;
    }

    void run() {
        newObject();
        setReservoir();
        setWays();
        setting();
    }

    private void newObject() {
        withoutThings();
        withoutDays();
    }

    private void withoutThings() {
        edges.sentence(1, "Creates a reservoir as described, without roofs, users and rains;");
        RainReservoir x = new RainReservoir();
        edges.dueRow("settings", Rows.settings(x), 10000, 0, 0, 0, 3, 0, 0, 0, 0, 0, 0, 0);
        edges.due("clearText()", x.clearText(), 0);
        edges.refusedIndex("roof(0, 0)", Stands::fresh, y -> y.roof(0, 0));
        edges.refusedIndex("user(0, 0)", Stands::fresh, y -> y.user(0, 0));
        edges.refusedIndex("setDemand(0, 0)", Stands::fresh, y -> y.setDemand(0, 0));
        edges.refusedIndex("rain(0)", Stands::fresh, y -> y.rain(0));
        edges.refusedIndex("gutterLoss(0)", Stands::fresh, y -> y.gutterLoss(0));
        edges.refusedState("undo()", Stands::fresh, y -> y.undo());
    }

    private void withoutDays() {
        edges.sentence(1, "no day is done, and the rule is 0.");
        RainReservoir x = new RainReservoir();
        edges.refusedIndex("day(0, 0)", Stands::fresh, y -> y.day(0, 0));
        edges.refusedState("run(1)", Stands::fresh, y -> y.run(1));
        edges.dueRow("sums", Rows.sums(x), 0, 0, 0, 0, 0, 0, 0, 0, 0);
        edges.dueDouble("reliability()", x.reliability(), 1.0);
        edges.due("setWays(), the rule before", x.setWays(0, 3, 1), 0);
        edges.due("rule of another new object", new RainReservoir().setting(5), 0);
    }

    /** A level of 200 on the latest of two days, with a capacity of 400. */
    private static RainReservoir level200() {
        RainReservoir x = Rows.literARain();
        x.setReservoir(400, 0, 0);
        x.addRain(100, 3);
        x.run(2);
        return x;
    }

    private void dueBelowLevel(int capacity, int level, int overflow) {
        RainReservoir x = level200();
        x.setReservoir(capacity, 0, 0);
        edges.due("level with " + capacity, x.setting(10), level);
        edges.due("overflow in all with " + capacity, x.sum(4), overflow);
        edges.due("overflow of the day with " + capacity, x.day(1, 4), 0);
        edges.due("level at the end of the day with " + capacity, x.day(1, 0), 200);
    }

    private void setReservoir() {
        newReservoir();
        levelAboveTheCapacity();
        setReservoirUndoable();
        setReservoirArguments();
    }

    private void newReservoir() {
        edges.sentence(5, "Sets the reservoir;");
        RainReservoir x = new RainReservoir();
        x.setReservoir(100, 100, 100);
        edges.dueRow("settings", Rows.settings(x), 100, 100, 100, 0, 3, 0, 0, 0, 0, 0, 0, 0);
        x.setReservoir(60000, 60000, 60000);
        edges.dueRow("settings", Rows.settings(x), 60000, 60000, 60000, 0, 3, 0, 0, 0, 0, 0, 0, 0);
    }

    private void levelAboveTheCapacity() {
        edges.sentence(5, "a level above the new capacity becomes the capacity (the difference is counted as "
            + "overflow in all, but belongs to no day).");
        dueBelowLevel(201, 200, 0);
        dueBelowLevel(200, 200, 0);
        dueBelowLevel(199, 199, 1);
        dueBelowLevel(100, 100, 100);
        RainReservoir y = level200();
        y.setReservoir(150, 0, 0);
        y.setReservoir(100, 0, 0);
        y.setReservoir(400, 0, 0);
        edges.due("overflow of two differences", y.sum(4), 100);
        edges.due("level that stays", y.setting(10), 100);
        y.run(1);
        edges.due("overflow of the next day", y.day(2, 4), 0);
        edges.due("overflow in all", y.sum(4), 100);
        RainReservoir empty = new RainReservoir();
        empty.setReservoir(100, 0, 0);
        edges.due("overflow in all of an empty reservoir", empty.sum(4), 0);
    }

    private void setReservoirUndoable() {
        edges.sentence(5, "Undoable.");
        edges.undoable("setReservoir()", Stands::fresh, z -> z.setReservoir(100, 1, 2));
        edges.undoable("setReservoir() below the level", ReservoirEdges::level200, z -> z.setReservoir(100, 1, 2));
        edges.undoable("setReservoir() with a level that stays", Stands::midst, z -> z.setReservoir(60000, 1, 2));
    }

    private void setReservoirArguments() {
        capacity();
        floor();
        topUp();
        previousCapacity();
        setReservoirOutOfRange();
    }

    private void capacity() {
        edges.sentence(5, "`capacity`: 100 to 60000");
        edges.range("capacity", Stands::midst, 100, 60000, (y, v) -> {
            y.setReservoir(v, 0, 0);
            return y.setting(0);
        });
    }

    private void floor() {
        edges.sentence(5, "`floor`: 0 to capacity");
        edges.range("floor below 100", Stands::midst, 0, 100, (y, v) -> {
            y.setReservoir(100, v, 0);
            return y.setting(1);
        });
        edges.range("floor below 60000", Stands::midst, 0, 60000, (y, v) -> {
            y.setReservoir(60000, v, 0);
            return y.setting(1);
        });
    }

    private void topUp() {
        edges.sentence(5, "`topUp`: 0 to capacity");
        edges.range("top-up level below 100", Stands::midst, 0, 100, (y, v) -> {
            y.setReservoir(100, 100, v);
            return y.setting(2);
        });
        edges.range("top-up level below 60000", Stands::midst, 0, 60000, (y, v) -> {
            y.setReservoir(60000, 0, v);
            return y.setting(2);
        });
    }

    private void previousCapacity() {
        edges.sentence(5, "Returns the previous capacity.");
        RainReservoir x = new RainReservoir();
        edges.due("setReservoir() first", x.setReservoir(100, 0, 0), 10000);
        edges.due("setReservoir() from 100", x.setReservoir(60000, 0, 0), 100);
        edges.due("setReservoir() from 60000", x.setReservoir(60000, 5, 5), 60000);
    }

    private void setReservoirOutOfRange() {
        edges.sentence(5, "Throws `IllegalArgumentException` if an argument is out of range");
        int[][] wrong = {{99, 0, 0}, {60001, 0, 0}, {100, -1, 0}, {100, 101, 0}, {100, 0, -1}, {100, 0, 101},
            {99, 99, 99}, {60000, 60001, 60001}, {-1, -1, -1}};
        for (int[] w : wrong) {
            String told = "setReservoir() of " + w[0] + ", " + w[1] + ", " + w[2];
            edges.refusedArgument(told, Stands::midst, y -> y.setReservoir(w[0], w[1], w[2]));
            edges.refusedArgument(told + " of a full object", Stands::full, y -> y.setReservoir(w[0], w[1], w[2]));
        }
        // The bound is the new capacity, not the old one.
        edges.refusedArgument("a floor below the old capacity", Stands::fresh, y -> y.setReservoir(100, 200, 0));
        edges.refusedArgument("a top-up level below the old capacity",
            Stands::fresh, y -> y.setReservoir(100, 0, 200));
        edges.due("a floor above the old capacity", sixtyThousand().setting(1), 60000);
    }

    private static RainReservoir sixtyThousand() {
        RainReservoir x = new RainReservoir();
        x.setReservoir(60000, 60000, 60000);
        return x;
    }

    private void setWays() {
        newWays();
        setWaysUndoable();
        evaporation();
        dryLimit();
        rule();
        previousRule();
        setWaysOutOfRange();
    }

    private void newWays() {
        edges.sentence(6, "Sets how days go.");
        RainReservoir x = Stands.roof(10);
        x.addRain(100, 2);
        x.run(1);
        x.setWays(100, 3, 0);
        edges.due("what evaporated before", x.day(0, 5), 0);
        x.run(1);
        edges.due("what evaporates behind it", x.day(1, 5), 200);
    }

    private void setWaysUndoable() {
        edges.sentence(6, "Undoable.");
        edges.undoable("setWays()", Stands::fresh, y -> y.setWays(100, 20, 3));
        edges.undoable("setWays() in the midst", Stands::midst, y -> y.setWays(0, 1, 2));
    }

    private void evaporation() {
        edges.sentence(6, "`evaporation`: 0 to 100");
        edges.range("evaporation", Stands::midst, 0, 100, (y, v) -> {
            y.setWays(v, 20, 3);
            return y.setting(3);
        });
    }

    private void dryLimit() {
        edges.sentence(6, "`dryLimit`: 1 to 20");
        edges.range("dry limit", Stands::midst, 1, 20, (y, v) -> {
            y.setWays(100, v, 3);
            return y.setting(4);
        });
    }

    private void rule() {
        edges.sentence(6, "`rule`: 0 to 3");
        edges.range("rule", Stands::midst, 0, 3, (y, v) -> {
            y.setWays(100, 20, v);
            return y.setting(5);
        });
    }

    private void previousRule() {
        edges.sentence(6, "Returns the previous rule.");
        RainReservoir z = new RainReservoir();
        edges.due("setWays() first", z.setWays(0, 3, 3), 0);
        edges.due("setWays() from 3", z.setWays(0, 3, 3), 3);
        edges.due("setWays() from 3 again", z.setWays(0, 3, 0), 3);
        edges.due("setWays() from 0", z.setWays(0, 3, 0), 0);
    }

    private void setWaysOutOfRange() {
        edges.sentence(6, "Throws `IllegalArgumentException` if an argument is out of range");
        int[][] wrong = {{-1, 1, 0}, {101, 1, 0}, {0, 0, 0}, {0, 21, 0}, {0, 1, -1}, {0, 1, 4}, {101, 21, 4}};
        for (int[] w : wrong) {
            String told = "setWays() of " + w[0] + ", " + w[1] + ", " + w[2];
            edges.refusedArgument(told, Stands::midst, y -> y.setWays(w[0], w[1], w[2]));
            edges.refusedArgument(told + " of a full object", Stands::full, y -> y.setWays(w[0], w[1], w[2]));
        }
    }

    private void setting() {
        settingReads();
        settingValues();
        greatestSettings();
        settingOutOfRange();
    }

    private void settingReads() {
        edges.sentence(7, "Returns a setting or a number.");
        edges.unchanged("setting()", Stands::midst, y -> y.setting(0) + y.setting(11));
    }

    private void settingValues() {
        edges.sentence(7, "`what`: 0 the capacity, 1 the pump floor, 2 the top-up level, 3 the evaporation, 4 the "
            + "dry limit, 5 the rule, 6 the number of roofs, 7 the number of users, 8 the number of days of rain, "
            + "9 the number of days done, 10 the level, 11 the number of dry days in a row");
        RainReservoir x = Stands.full();
        x.restart();
        x.setWays(99, 7, 1);
        edges.dueRow("settings of a full object", Rows.settings(x), 60000, 100, 200, 99, 7, 1, 6, 5, 100, 0, 0, 0);
        edges.refusedArgument("setting(-1)", Stands::midst, y -> y.setting(-1));
        edges.refusedArgument("setting(12)", Stands::midst, y -> y.setting(12));
    }

    private void greatestSettings() {
        edges.sentence(7, "Returns that value.");
        RainReservoir z = Stands.roof(500);
        z.setReservoir(60000, 0, 0);
        z.addRain(200, 2);
        z.addRain(0, 98);
        z.run(100);
        edges.dueRow("settings", Rows.settings(z), 60000, 0, 0, 0, 3, 0, 1, 0, 100, 100, 60000, 98);
    }

    private void settingOutOfRange() {
        edges.sentence(7, "Throws `IllegalArgumentException` if what is out of range");
        edges.outside("setting()", Stands::fresh, 0, 11, (y, v) -> y.setting(v));
        edges.outside("setting()", Stands::full, 0, 11, (y, v) -> y.setting(v));
    }
}
