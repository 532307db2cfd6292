import java.math.BigInteger;

/** Boundary cases of promises 1 to 12. */
final class SetUpEdges {
    private final Edges edges;

    SetUpEdges(Edges edges) {
        this.edges = edges;
    }

    void run() {
        newObject();
        addRoof();
        addUser();
        setDemand();
        setReservoir();
        setWays();
        setting();
        roof();
        user();
        addRain();
        addRandomRain();
        rain();
    }

    private void newObject() {
        edges.sentence(1, "Creates a reservoir as described, without roofs, users and rains;");
        RainReservoir x = new RainReservoir();
        edges.dueRow("settings", Rows.settings(x), 10000, 0, 0, 0, 3, 0, 0, 0, 0, 0, 0, 0);
        edges.due("clearText()", x.clearText(), 0);
        edges.refusedIndex("roof(0, 0)", Stands::fresh, y -> y.roof(0, 0));
        edges.refusedIndex("user(0, 0)", Stands::fresh, y -> y.user(0, 0));
        edges.refusedIndex("setDemand(0, 0)", Stands::fresh, y -> y.setDemand(0, 0));
        edges.refusedIndex("rain(0)", Stands::fresh, y -> y.rain(0));
        edges.refusedIndex("gutterLoss(0)", Stands::fresh, y -> y.gutterLoss(0));
        edges.refusedState("undo()", Stands::fresh, y -> y.undo());
        edges.sentence(1, "no day is done, and the rule is 0.");
        edges.refusedIndex("day(0, 0)", Stands::fresh, y -> y.day(0, 0));
        edges.refusedState("run(1)", Stands::fresh, y -> y.run(1));
        edges.dueRow("sums", Rows.sums(x), 0, 0, 0, 0, 0, 0, 0, 0, 0);
        edges.dueDouble("reliability()", x.reliability(), 1.0);
        edges.due("setWays(), the rule before", x.setWays(0, 3, 1), 0);
        edges.due("rule of another new object", new RainReservoir().setting(5), 0);
    }

    private void addRoof() {
        edges.sentence(2, "Adds a roof with an empty diverter.");
        RainReservoir x = Stands.midst();
        x.addRoof(9, 8, 7, 6);
        edges.dueRow("the new roof", Rows.roof(x, 2), 9, 8, 7, 6, 0);
        RainReservoir again = Stands.roof(1);
        again.addRoof(1, 100, 50, 50000);
        again.addRain(200, 1);
        again.run(1);
        again.undo();
        again.undo();
        again.undo();
        again.addRoof(1, 100, 50, 50000);
        edges.due("water where an undone roof had some", again.roof(1, 4), 0);
        edges.sentence(2, "Undoable.");
        edges.undoable("the first roof", Stands::fresh, y -> y.addRoof(1, 1, 0, 1));
        edges.undoable("the third roof", Stands::midst, y -> y.addRoof(500, 100, 999, 50000));
        edges.sentence(2, "`area`: 1 to 500");
        edges.range("area", Stands::midst, 1, 500, (y, v) -> y.roof(y.addRoof(v, 100, 0, 50000), 0));
        edges.sentence(2, "`share`: 1 to 100, its yield");
        edges.range("share", Stands::midst, 1, 100, (y, v) -> y.roof(y.addRoof(500, v, 0, 50000), 1));
        edges.sentence(2, "`flush`: 0 to 999");
        edges.range("flush", Stands::midst, 0, 999, (y, v) -> y.roof(y.addRoof(500, 100, v, 50000), 2));
        edges.sentence(2, "`gutter`: 1 to 50000");
        edges.range("gutter", Stands::midst, 1, 50000, (y, v) -> y.roof(y.addRoof(500, 100, 0, v), 3));
        addRoofAnswers();
    }

    private void addRoofAnswers() {
        edges.sentence(2, "Returns the number of the roof.");
        RainReservoir x = new RainReservoir();
        for (int number = 0; number < 6; number++) {
            edges.due("addRoof()", x.addRoof(1, 1, 0, 1), number);
        }
        x.undo();
        edges.due("addRoof() behind undo()", x.addRoof(2, 1, 0, 1), 5);
        edges.sentence(2, "Throws `IllegalArgumentException` if an argument is out of range");
        int[][] wrong = {{0, 1, 0, 1}, {501, 1, 0, 1}, {1, 0, 0, 1}, {1, 101, 0, 1}, {1, 1, -1, 1},
            {1, 1, 1000, 1}, {1, 1, 0, 0}, {1, 1, 0, 50001}, {501, 101, 1000, 50001}};
        for (int[] w : wrong) {
            String told = "addRoof() of " + w[0] + ", " + w[1] + ", " + w[2] + ", " + w[3];
            edges.refusedArgument(told, Stands::fresh, y -> y.addRoof(w[0], w[1], w[2], w[3]));
            edges.refusedArgument(told + " behind 6", Stands::full, y -> y.addRoof(w[0], w[1], w[2], w[3]));
        }
        edges.sentence(2, "Throws `IllegalStateException` if there are 6 roofs");
        edges.due("the sixth roof", sixRoofs().setting(6), 6);
        edges.refusedState("the seventh roof", SetUpEdges::sixRoofs, y -> y.addRoof(1, 1, 0, 1));
        edges.refusedState("the seventh roof of a full object", Stands::full, y -> y.addRoof(500, 100, 999, 50000));
    }

    private static RainReservoir sixRoofs() {
        RainReservoir x = Stands.midst();
        for (int i = 2; i < 6; i++) {
            x.addRoof(i, 100, 1, 100);
        }
        return x;
    }

    private void addUser() {
        edges.sentence(3, "Adds a user.");
        RainReservoir x = Stands.midst();
        x.addUser(70, 6);
        edges.dueRow("the new user", Rows.user(x, 3), 70, 6, 0, 0);
        edges.sentence(3, "Undoable.");
        edges.undoable("the first user", Stands::fresh, y -> y.addUser(0, 1));
        edges.undoable("the fourth user", Stands::midst, y -> y.addUser(9999, 9));
        edges.sentence(3, "`demand`: 0 to 9999");
        edges.range("demand", Stands::midst, 0, 9999, (y, v) -> y.user(y.addUser(v, 9), 0));
        edges.sentence(3, "`weight`: 1 to 9");
        edges.range("weight", Stands::midst, 1, 9, (y, v) -> y.user(y.addUser(9999, v), 1));
        edges.sentence(3, "Returns the number of the user.");
        RainReservoir z = new RainReservoir();
        for (int number = 0; number < 5; number++) {
            edges.due("addUser()", z.addUser(0, 1), number);
        }
        z.undo();
        edges.due("addUser() behind undo()", z.addUser(0, 1), 4);
        edges.sentence(3, "Throws `IllegalArgumentException` if an argument is out of range");
        int[][] wrong = {{-1, 1}, {10000, 1}, {0, 0}, {0, 10}, {10000, 10}};
        for (int[] w : wrong) {
            String told = "addUser() of " + w[0] + ", " + w[1];
            edges.refusedArgument(told, Stands::fresh, y -> y.addUser(w[0], w[1]));
            edges.refusedArgument(told + " behind 5", Stands::full, y -> y.addUser(w[0], w[1]));
        }
        edges.sentence(3, "Throws `IllegalStateException` if there are 5 users");
        edges.due("the fifth user", fiveUsers().setting(7), 5);
        edges.refusedState("the sixth user", SetUpEdges::fiveUsers, y -> y.addUser(0, 1));
        edges.refusedState("the sixth user of a full object", Stands::full, y -> y.addUser(9999, 9));
    }

    private static RainReservoir fiveUsers() {
        RainReservoir x = Stands.midst();
        x.addUser(5, 5);
        x.addUser(6, 6);
        return x;
    }

    private void setDemand() {
        edges.sentence(4, "Sets the demand of a user.");
        RainReservoir x = fiveUsers();
        x.setDemand(0, 11);
        x.setDemand(4, 12);
        edges.due("demand of user 0", x.user(0, 0), 11);
        edges.due("demand of user 3", x.user(3, 0), 5);
        edges.due("demand of user 4", x.user(4, 0), 12);
        edges.due("weight of user 4", x.user(4, 1), 6);
        edges.due("got in all of user 0", x.user(0, 3), Stands.midst().user(0, 3));
        edges.sentence(4, "Undoable.");
        edges.undoable("setDemand()", Stands::midst, y -> y.setDemand(0, 9999));
        edges.undoable("setDemand() to the same", Stands::midst, y -> y.setDemand(0, 30));
        edges.undoable("setDemand() of a full object", Stands::full, y -> y.setDemand(4, 0));
        edges.sentence(4, "`user`: number of a user");
        edges.due("setDemand() of the first", Stands.midst().setDemand(0, 1), 30);
        edges.due("setDemand() of the last", Stands.midst().setDemand(2, 1), 333);
        edges.due("setDemand() of the last of five", Stands.full().setDemand(4, 1), 9995);
        edges.refusedIndex("setDemand(3, 1)", Stands::midst, y -> y.setDemand(3, 1));
        edges.refusedIndex("setDemand(5, 1)", Stands::full, y -> y.setDemand(5, 1));
        edges.refusedIndex("setDemand(-1, 1)", Stands::midst, y -> y.setDemand(-1, 1));
        edges.sentence(4, "`demand`: 0 to 9999");
        edges.range("setDemand()", Stands::midst, 0, 9999, (y, v) -> y.setDemand(1, v) + y.user(1, 0));
        edges.sentence(4, "Returns the previous demand.");
        RainReservoir z = Stands.midst();
        edges.due("setDemand() from 0", z.setDemand(1, 9999), 0);
        edges.due("setDemand() from 9999", z.setDemand(1, 9999), 9999);
        edges.due("setDemand() from 9999 again", z.setDemand(1, 0), 9999);
        edges.sentence(4, "Throws `IndexOutOfBoundsException` if there is no such user");
        edges.outsideIndex("setDemand()", Stands::fresh, 0, (y, v) -> y.setDemand(v, 1));
        edges.outsideIndex("setDemand()", Stands::midst, 3, (y, v) -> y.setDemand(v, 1));
        edges.outsideIndex("setDemand()", Stands::full, 5, (y, v) -> y.setDemand(v, -1));
        edges.refusedIndex("a user that is undone", SetUpEdges::userUndone, y -> y.setDemand(3, 1));
        edges.sentence(4, "Throws `IllegalArgumentException` if demand is out of range");
        edges.outside("setDemand(0, ..)", Stands::midst, 0, 9999, (y, v) -> y.setDemand(0, v));
        edges.outside("setDemand(4, ..)", Stands::full, 0, 9999, (y, v) -> y.setDemand(4, v));
    }

    private static RainReservoir userUndone() {
        RainReservoir x = Stands.midst();
        x.addUser(5, 5);
        x.undo();
        return x;
    }

    /** A level of 200 on the latest of two days, with a capacity of 400. */
    private static RainReservoir level200() {
        RainReservoir x = Rows.literARain();
        x.setReservoir(400, 0, 0);
        x.addRain(100, 3);
        x.run(2);
        return x;
    }

    private void dueBelowLevel(int capacity, int level, int overflow) {
        RainReservoir x = level200();
        x.setReservoir(capacity, 0, 0);
        edges.due("level with " + capacity, x.setting(10), level);
        edges.due("overflow in all with " + capacity, x.sum(4), overflow);
        edges.due("overflow of the day with " + capacity, x.day(1, 4), 0);
        edges.due("level at the end of the day with " + capacity, x.day(1, 0), 200);
    }

    private void setReservoir() {
        edges.sentence(5, "Sets the reservoir;");
        RainReservoir x = new RainReservoir();
        x.setReservoir(100, 100, 100);
        edges.dueRow("settings", Rows.settings(x), 100, 100, 100, 0, 3, 0, 0, 0, 0, 0, 0, 0);
        x.setReservoir(60000, 60000, 60000);
        edges.dueRow("settings", Rows.settings(x), 60000, 60000, 60000, 0, 3, 0, 0, 0, 0, 0, 0, 0);
        edges.sentence(5, "a level above the new capacity becomes the capacity (the difference is counted as "
            + "overflow in all, but belongs to no day).");
        dueBelowLevel(201, 200, 0);
        dueBelowLevel(200, 200, 0);
        dueBelowLevel(199, 199, 1);
        dueBelowLevel(100, 100, 100);
        RainReservoir y = level200();
        y.setReservoir(150, 0, 0);
        y.setReservoir(100, 0, 0);
        y.setReservoir(400, 0, 0);
        edges.due("overflow of two differences", y.sum(4), 100);
        edges.due("level that stays", y.setting(10), 100);
        y.run(1);
        edges.due("overflow of the next day", y.day(2, 4), 0);
        edges.due("overflow in all", y.sum(4), 100);
        RainReservoir empty = new RainReservoir();
        empty.setReservoir(100, 0, 0);
        edges.due("overflow in all of an empty reservoir", empty.sum(4), 0);
        edges.sentence(5, "Undoable.");
        edges.undoable("setReservoir()", Stands::fresh, z -> z.setReservoir(100, 1, 2));
        edges.undoable("setReservoir() below the level", SetUpEdges::level200, z -> z.setReservoir(100, 1, 2));
        edges.undoable("setReservoir() with a level that stays", Stands::midst, z -> z.setReservoir(60000, 1, 2));
        setReservoirArguments();
    }

    private void setReservoirArguments() {
        edges.sentence(5, "`capacity`: 100 to 60000");
        edges.range("capacity", Stands::midst, 100, 60000, (y, v) -> {
            y.setReservoir(v, 0, 0);
            return y.setting(0);
        });
        edges.sentence(5, "`floor`: 0 to capacity");
        edges.range("floor below 100", Stands::midst, 0, 100, (y, v) -> {
            y.setReservoir(100, v, 0);
            return y.setting(1);
        });
        edges.range("floor below 60000", Stands::midst, 0, 60000, (y, v) -> {
            y.setReservoir(60000, v, 0);
            return y.setting(1);
        });
        edges.sentence(5, "`topUp`: 0 to capacity");
        edges.range("top-up level below 100", Stands::midst, 0, 100, (y, v) -> {
            y.setReservoir(100, 100, v);
            return y.setting(2);
        });
        edges.range("top-up level below 60000", Stands::midst, 0, 60000, (y, v) -> {
            y.setReservoir(60000, 0, v);
            return y.setting(2);
        });
        edges.sentence(5, "Returns the previous capacity.");
        RainReservoir x = new RainReservoir();
        edges.due("setReservoir() first", x.setReservoir(100, 0, 0), 10000);
        edges.due("setReservoir() from 100", x.setReservoir(60000, 0, 0), 100);
        edges.due("setReservoir() from 60000", x.setReservoir(60000, 5, 5), 60000);
        edges.sentence(5, "Throws `IllegalArgumentException` if an argument is out of range");
        int[][] wrong = {{99, 0, 0}, {60001, 0, 0}, {100, -1, 0}, {100, 101, 0}, {100, 0, -1}, {100, 0, 101},
            {99, 99, 99}, {60000, 60001, 60001}, {-1, -1, -1}};
        for (int[] w : wrong) {
            String told = "setReservoir() of " + w[0] + ", " + w[1] + ", " + w[2];
            edges.refusedArgument(told, Stands::midst, y -> y.setReservoir(w[0], w[1], w[2]));
            edges.refusedArgument(told + " of a full object", Stands::full, y -> y.setReservoir(w[0], w[1], w[2]));
        }
        // The bound is the new capacity, not the old one.
        edges.refusedArgument("a floor below the old capacity", Stands::fresh, y -> y.setReservoir(100, 200, 0));
        edges.refusedArgument("a top-up level below the old capacity",
            Stands::fresh, y -> y.setReservoir(100, 0, 200));
        edges.due("a floor above the old capacity", sixtyThousand().setting(1), 60000);
    }

    private static RainReservoir sixtyThousand() {
        RainReservoir x = new RainReservoir();
        x.setReservoir(60000, 60000, 60000);
        return x;
    }

    private void setWays() {
        edges.sentence(6, "Sets how days go.");
        RainReservoir x = Stands.roof(10);
        x.addRain(100, 2);
        x.run(1);
        x.setWays(100, 3, 0);
        edges.due("what evaporated before", x.day(0, 5), 0);
        x.run(1);
        edges.due("what evaporates behind it", x.day(1, 5), 200);
        edges.sentence(6, "Undoable.");
        edges.undoable("setWays()", Stands::fresh, y -> y.setWays(100, 20, 3));
        edges.undoable("setWays() in the midst", Stands::midst, y -> y.setWays(0, 1, 2));
        edges.sentence(6, "`evaporation`: 0 to 100");
        edges.range("evaporation", Stands::midst, 0, 100, (y, v) -> {
            y.setWays(v, 20, 3);
            return y.setting(3);
        });
        edges.sentence(6, "`dryLimit`: 1 to 20");
        edges.range("dry limit", Stands::midst, 1, 20, (y, v) -> {
            y.setWays(100, v, 3);
            return y.setting(4);
        });
        edges.sentence(6, "`rule`: 0 to 3");
        edges.range("rule", Stands::midst, 0, 3, (y, v) -> {
            y.setWays(100, 20, v);
            return y.setting(5);
        });
        edges.sentence(6, "Returns the previous rule.");
        RainReservoir z = new RainReservoir();
        edges.due("setWays() first", z.setWays(0, 3, 3), 0);
        edges.due("setWays() from 3", z.setWays(0, 3, 3), 3);
        edges.due("setWays() from 3 again", z.setWays(0, 3, 0), 3);
        edges.due("setWays() from 0", z.setWays(0, 3, 0), 0);
        edges.sentence(6, "Throws `IllegalArgumentException` if an argument is out of range");
        int[][] wrong = {{-1, 1, 0}, {101, 1, 0}, {0, 0, 0}, {0, 21, 0}, {0, 1, -1}, {0, 1, 4}, {101, 21, 4}};
        for (int[] w : wrong) {
            String told = "setWays() of " + w[0] + ", " + w[1] + ", " + w[2];
            edges.refusedArgument(told, Stands::midst, y -> y.setWays(w[0], w[1], w[2]));
            edges.refusedArgument(told + " of a full object", Stands::full, y -> y.setWays(w[0], w[1], w[2]));
        }
    }

    private void setting() {
        edges.sentence(7, "Returns a setting or a number.");
        edges.unchanged("setting()", Stands::midst, y -> y.setting(0) + y.setting(11));
        edges.sentence(7, "`what`: 0 the capacity, 1 the pump floor, 2 the top-up level, 3 the evaporation, 4 the "
            + "dry limit, 5 the rule, 6 the number of roofs, 7 the number of users, 8 the number of days of rain, "
            + "9 the number of days done, 10 the level, 11 the number of dry days in a row");
        RainReservoir x = Stands.full();
        x.restart();
        x.setWays(99, 7, 1);
        edges.dueRow("settings of a full object", Rows.settings(x), 60000, 100, 200, 99, 7, 1, 6, 5, 100, 0, 0, 0);
        edges.refusedArgument("setting(-1)", Stands::midst, y -> y.setting(-1));
        edges.refusedArgument("setting(12)", Stands::midst, y -> y.setting(12));
        edges.sentence(7, "Returns that value.");
        RainReservoir z = Stands.roof(500);
        z.setReservoir(60000, 0, 0);
        z.addRain(200, 2);
        z.addRain(0, 98);
        z.run(100);
        edges.dueRow("settings", Rows.settings(z), 60000, 0, 0, 0, 3, 0, 1, 0, 100, 100, 60000, 98);
        edges.sentence(7, "Throws `IllegalArgumentException` if what is out of range");
        edges.outside("setting()", Stands::fresh, 0, 11, (y, v) -> y.setting(v));
        edges.outside("setting()", Stands::full, 0, 11, (y, v) -> y.setting(v));
    }

    private void roof() {
        edges.sentence(8, "Returns something about a roof.");
        edges.unchanged("roof()", Stands::midst, y -> y.roof(0, 0) + y.roof(1, 4));
        edges.sentence(8, "`roof`: number of a roof");
        edges.due("area of the first", Stands.midst().roof(0, 0), 120);
        edges.due("area of the last", Stands.midst().roof(1, 0), 35);
        edges.due("area of the last of six", Stands.full().roof(5, 0), 495);
        edges.refusedIndex("roof(2, 0) of two", Stands::midst, y -> y.roof(2, 0));
        edges.refusedIndex("roof(-1, 0)", Stands::midst, y -> y.roof(-1, 0));
        edges.sentence(8, "`what`: 0 its area, 1 its yield, 2 its flush, 3 its gutter, 4 the water in its diverter");
        RainReservoir x = new RainReservoir();
        x.addRoof(11, 50, 60, 70);
        x.addRain(10, 1);
        x.run(1);
        edges.dueRow("roof", Rows.roof(x, 0), 11, 50, 60, 70, 55);
        edges.refusedArgument("roof(0, -1)", Stands::midst, y -> y.roof(0, -1));
        edges.refusedArgument("roof(0, 5)", Stands::midst, y -> y.roof(0, 5));
        edges.sentence(8, "Returns that value.");
        edges.dueRow("the least roof", Rows.roof(roofOf(1, 1, 0, 1), 0), 1, 1, 0, 1, 0);
        edges.dueRow("the greatest roof", Rows.roof(roofOf(500, 100, 999, 50000), 0), 500, 100, 999, 50000, 999);
        edges.sentence(8, "Throws `IndexOutOfBoundsException` if there is no such roof");
        edges.outsideIndex("roof()", Stands::fresh, 0, (y, v) -> y.roof(v, 0));
        edges.outsideIndex("roof()", Stands::midst, 2, (y, v) -> y.roof(v, 4));
        edges.outsideIndex("roof()", Stands::full, 6, (y, v) -> y.roof(v, 5));
        edges.sentence(8, "Throws `IllegalArgumentException` if what is out of range");
        edges.outside("roof(0, ..)", Stands::midst, 0, 4, (y, v) -> y.roof(0, v));
        edges.outside("roof(5, ..)", Stands::full, 0, 4, (y, v) -> y.roof(5, v));
    }

    /** The greatest rain has fallen on the roof. */
    private static RainReservoir roofOf(int area, int share, int flush, int gutter) {
        RainReservoir x = new RainReservoir();
        x.addRoof(area, share, flush, gutter);
        x.addRain(200, 1);
        x.run(1);
        return x;
    }

    private void user() {
        edges.sentence(9, "Returns something about a user.");
        edges.unchanged("user()", Stands::midst, y -> y.user(0, 0) + y.user(2, 3));
        edges.sentence(9, "`user`: number of a user");
        edges.due("demand of the first", Stands.midst().user(0, 0), 30);
        edges.due("demand of the last", Stands.midst().user(2, 0), 333);
        edges.due("demand of the last of five", Stands.full().user(4, 0), 9995);
        edges.refusedIndex("user(3, 0) of three", Stands::midst, y -> y.user(3, 0));
        edges.refusedIndex("user(-1, 0)", Stands::midst, y -> y.user(-1, 0));
        latestDay();
        edges.sentence(9, "Returns that value.");
        RainReservoir x = Stands.roof(100);
        x.addUser(0, 1);
        x.addUser(9999, 9);
        x.addRain(100, 100);
        x.run(100);
        edges.dueRow("user of nothing", Rows.user(x, 0), 0, 1, 0, 0);
        edges.dueRow("user of most", Rows.user(x, 1), 9999, 9, 9999, 999900);
        edges.sentence(9, "Throws `IndexOutOfBoundsException` if there is no such user");
        edges.outsideIndex("user()", Stands::fresh, 0, (y, v) -> y.user(v, 0));
        edges.outsideIndex("user()", Stands::midst, 3, (y, v) -> y.user(v, 3));
        edges.outsideIndex("user()", Stands::full, 5, (y, v) -> y.user(v, 4));
        edges.sentence(9, "Throws `IllegalArgumentException` if what is out of range");
        edges.outside("user(0, ..)", Stands::midst, 0, 3, (y, v) -> y.user(0, v));
        edges.outside("user(4, ..)", Stands::full, 0, 3, (y, v) -> y.user(4, v));
    }

    private void latestDay() {
        edges.sentence(9, "`what`: 0 its demand, 1 its weight, 2 what it got on the latest day done (0 if it was "
            + "added behind it, or no day is done), 3 what it has got in all");
        RainReservoir x = Rows.literARain();
        x.addUser(30, 2);
        x.addRain(50, 1);
        x.addRain(0, 3);
        edges.dueRow("no day is done", Rows.user(x, 0), 30, 2, 0, 0);
        x.run(1);
        edges.dueRow("a day is done", Rows.user(x, 0), 30, 2, 30, 30);
        x.addUser(5, 1);
        edges.dueRow("added behind the day", Rows.user(x, 1), 5, 1, 0, 0);
        x.run(0);
        edges.dueRow("no day more", Rows.user(x, 0), 30, 2, 30, 30);
        x.setDemand(0, 7);
        edges.dueRow("the demand of the days to come", Rows.user(x, 0), 7, 2, 30, 30);
        x.run(1);
        edges.dueRow("another day", Rows.user(x, 0), 7, 2, 7, 37);
        edges.dueRow("added before that day", Rows.user(x, 1), 5, 1, 5, 5);
        x.run(2);
        // 8 liters for 12: 4 and 3, and the one that is left goes to the first; then there are none.
        edges.dueRow("nothing on the latest day", Rows.user(x, 0), 7, 2, 0, 42);
        edges.dueRow("nothing on the latest day", Rows.user(x, 1), 5, 1, 0, 8);
        x.undo();
        edges.dueRow("the latest day behind undo()", Rows.user(x, 0), 7, 2, 7, 37);
        x.restart();
        edges.dueRow("no day is done behind restart()", Rows.user(x, 0), 7, 2, 0, 0);
        edges.refusedArgument("user(0, -1)", Stands::midst, y -> y.user(0, -1));
        edges.refusedArgument("user(0, 4)", Stands::midst, y -> y.user(0, 4));
    }

    private void addRain() {
        edges.sentence(10, "Adds days of rain.");
        RainReservoir x = Stands.midst();
        int before = x.setting(8);
        x.addRain(199, 2);
        edges.due("days of rain", x.setting(8), before + 2);
        edges.due("rain of the first of them", x.rain(before), 199);
        edges.due("rain of the last of them", x.rain(before + 1), 199);
        edges.due("rain before them", x.rain(before - 1), Stands.midst().rain(before - 1));
        edges.due("days done", x.setting(9), Stands.midst().setting(9));
        edges.sentence(10, "Undoable.");
        edges.undoable("addRain()", Stands::fresh, y -> y.addRain(200, 100));
        edges.undoable("addRain() in the midst", Stands::midst, y -> y.addRain(0, 1));
        edges.sentence(10, "`rain`: 0 to 200");
        edges.range("rain", Stands::midst, 0, 200, (y, v) -> y.rain(y.addRain(v, 1) - 1));
        edges.sentence(10, "`days`: number of days with this rain, 1 to 100");
        edges.range("days", Stands::fresh, 1, 100, (y, v) -> y.addRain(200, v));
        edges.outside("days", Stands::midst, 1, 100, (y, v) -> y.addRain(0, v));
        edges.sentence(10, "Returns the number of days of rain.");
        RainReservoir z = new RainReservoir();
        edges.due("addRain() first", z.addRain(5, 1), 1);
        edges.due("addRain() of two", z.addRain(5, 2), 3);
        edges.due("addRain() to 100", z.addRain(5, 97), 100);
        edges.sentence(10, "Throws `IllegalArgumentException` if rain or days is out of range");
        int[][] wrong = {{-1, 1}, {201, 1}, {0, 0}, {0, 101}, {201, 101}, {201, 100}};
        for (int[] w : wrong) {
            String told = "addRain() of " + w[0] + ", " + w[1];
            edges.refusedArgument(told, Stands::fresh, y -> y.addRain(w[0], w[1]));
            edges.refusedArgument(told + " of a full object", Stands::full, y -> y.addRain(w[0], w[1]));
        }
        edges.sentence(10, "Throws `IllegalStateException` if there would be more than 100 days");
        edges.due("to 100 days", Stands.midst().addRain(1, 100 - before), 100);
        edges.refusedState("to 101 days", Stands::midst, y -> y.addRain(1, 101 - before));
        edges.refusedState("100 days more", Stands::midst, y -> y.addRain(1, 100));
        edges.refusedState("1 day behind 100", Stands::full, y -> y.addRain(0, 1));
        edges.refusedState("100 days behind 100", Stands::full, y -> y.addRain(200, 100));
    }

    private static BigInteger nextS(BigInteger s) {
        return s.multiply(BigInteger.valueOf(1103515245)).add(BigInteger.valueOf(12345))
            .mod(BigInteger.valueOf(2147483648L));
    }

    private static int upper(BigInteger s) {
        return s.divide(BigInteger.valueOf(65536)).intValue();
    }

    /** The rains as the document describes them, with numbers that cannot overflow. */
    private static long[] drawn(int seed, int days, int chance, int most) {
        long[] rains = new long[days];
        BigInteger s = BigInteger.valueOf(seed);
        for (int i = 0; i < days; i++) {
            s = nextS(s);
            if (upper(s) % 100 < chance) {
                s = nextS(s);
                rains[i] = 1 + upper(s) % most;
            }
        }
        return rains;
    }

    private void dueDrawn(int seed, int days, int chance, int most) {
        RainReservoir x = new RainReservoir();
        String told = "addRandomRain(" + seed + ", " + days + ", " + chance + ", " + most + ")";
        edges.due(told, x.addRandomRain(seed, days, chance, most), days);
        edges.dueRow(told, Rows.rains(x), drawn(seed, days, chance, most));
    }

    private void addRandomRain() {
        edges.sentence(11, "Adds random days of rain.");
        RainReservoir x = new RainReservoir();
        x.addRain(7, 98);
        edges.due("addRandomRain() behind 98 days", x.addRandomRain(0, 2, 100, 200), 100);
        edges.due("rain(97)", x.rain(97), 7);
        edges.due("rain(98)", x.rain(98), drawn(0, 2, 100, 200)[0]);
        edges.due("rain(99)", x.rain(99), drawn(0, 2, 100, 200)[1]);
        edges.sentence(11, "There is a number s, which is the seed at first.");
        dueDrawn(0, 100, 100, 200);
        dueDrawn(1, 100, 100, 200);
        dueDrawn(999999, 100, 100, 200);
        RainReservoir again = new RainReservoir();
        again.addRandomRain(5, 1, 100, 200);
        again.addRandomRain(5, 1, 100, 200);
        edges.due("the first rain of the same seed", again.rain(1), again.rain(0));
        edges.sentence(11, "For each day s becomes (1103515245 * s + 12345) modulo 2147483648;");
        for (int seed = 0; seed < 40; seed++) {
            dueDrawn(seed * 25641, 25, 50, 200);
        }
        chances();
        edges.sentence(11, "otherwise it is 0.");
        dueDrawn(0, 100, 0, 200);
        edges.dueRow("no chance", drawn(3, 3, 0, 1), 0, 0, 0);
        edges.due("rain without a chance", randomDay(999999, 0, 200), 0);
        edges.sentence(11, "Undoable.");
        edges.undoable("addRandomRain()", Stands::fresh, y -> y.addRandomRain(0, 100, 50, 200));
        edges.undoable("addRandomRain() in the midst", Stands::midst, y -> y.addRandomRain(0, 1, 0, 1));
        addRandomRainArguments();
    }

    private static int randomDay(int seed, int chance, int most) {
        RainReservoir x = new RainReservoir();
        x.addRandomRain(seed, 1, chance, most);
        return x.rain(0);
    }

    /** For the least, a middle and the greatest number that is drawn: the chance at it and above. */
    private void chances() {
        edges.sentence(11, "if (s / 65536) modulo 100 is less than the chance, s becomes the same once more, and the "
            + "rain is 1 + ((s / 65536) modulo most);");
        int[] numbers = {0, 1, 50, 98, 99};
        for (int number : numbers) {
            int seed = 0;
            while (upper(nextS(BigInteger.valueOf(seed))) % 100 != number) {
                seed++;
            }
            edges.due("rain with the chance " + number, randomDay(seed, number, 200), 0);
            edges.due("rain with a chance above " + number, randomDay(seed, number + 1, 200),
                drawn(seed, 1, 100, 200)[0]);
        }
        dueDrawn(0, 100, 1, 200);
        dueDrawn(0, 100, 99, 200);
        dueDrawn(0, 100, 100, 1);
        dueDrawn(0, 100, 100, 2);
        edges.due("rain of at most 1", randomDay(12, 100, 1), 1);
        int least = 200;
        int greatest = 0;
        for (int seed = 0; seed < 3000; seed++) {
            int rain = randomDay(seed, 100, 200);
            least = Math.min(least, rain);
            greatest = Math.max(greatest, rain);
        }
        edges.due("the least of many rains of at most 200", least, 1);
        edges.due("the greatest of many rains of at most 200", greatest, 200);
    }

    private void addRandomRainArguments() {
        int before = Stands.midst().setting(8);
        edges.sentence(11, "`seed`: 0 to 999999");
        edges.due("seed 0", randomDay(0, 100, 200), drawn(0, 1, 100, 200)[0]);
        edges.due("seed 999999", randomDay(999999, 100, 200), drawn(999999, 1, 100, 200)[0]);
        edges.outside("seed", Stands::midst, 0, 999999, (y, v) -> y.addRandomRain(v, 1, 0, 1));
        edges.sentence(11, "`days`: 1 to 100");
        edges.range("days", Stands::fresh, 1, 100, (y, v) -> y.addRandomRain(0, v, 0, 1));
        edges.sentence(11, "`chance`: 0 to 100");
        edges.due("chance 0", randomDay(0, 0, 1), 0);
        edges.due("chance 100", randomDay(0, 100, 1), 1);
        edges.outside("chance", Stands::midst, 0, 100, (y, v) -> y.addRandomRain(0, 1, v, 1));
        edges.sentence(11, "`most`: 1 to 200");
        edges.due("most 1", randomDay(0, 100, 1), 1);
        edges.due("most 200", randomDay(0, 100, 200), drawn(0, 1, 100, 200)[0]);
        edges.outside("most", Stands::midst, 1, 200, (y, v) -> y.addRandomRain(0, 1, 0, v));
        edges.sentence(11, "Returns the number of days of rain.");
        edges.due("1 day behind those in the midst", Stands.midst().addRandomRain(0, 1, 0, 1), before + 1);
        edges.due("to 100 days", Stands.midst().addRandomRain(0, 100 - before, 0, 1), 100);
        edges.sentence(11, "Throws `IllegalArgumentException` if an argument is out of range");
        int[][] wrong = {{-1, 1, 0, 1}, {1000000, 1, 0, 1}, {0, 0, 0, 1}, {0, 101, 0, 1}, {0, 1, -1, 1},
            {0, 1, 101, 1}, {0, 1, 0, 0}, {0, 1, 0, 201}, {-1, 101, 101, 0}};
        for (int[] w : wrong) {
            String told = "addRandomRain() of " + w[0] + ", " + w[1] + ", " + w[2] + ", " + w[3];
            edges.refusedArgument(told, Stands::fresh, y -> y.addRandomRain(w[0], w[1], w[2], w[3]));
            edges.refusedArgument(told + " of a full object",
                Stands::full, y -> y.addRandomRain(w[0], w[1], w[2], w[3]));
        }
        edges.sentence(11, "Throws `IllegalStateException` if there would be more than 100 days");
        edges.refusedState("to 101 days", Stands::midst, y -> y.addRandomRain(0, 101 - before, 50, 9));
        edges.refusedState("100 days more", Stands::midst, y -> y.addRandomRain(0, 100, 0, 1));
        edges.refusedState("1 day behind 100", Stands::full, y -> y.addRandomRain(999999, 1, 100, 200));
    }

    private void rain() {
        edges.sentence(12, "Returns the rain of a day.");
        edges.unchanged("rain()", Stands::midst, y -> y.rain(0));
        edges.due("rain of a day that is done", Stands.midst().rain(1), 12);
        edges.due("rain of a day that is not done", Stands.full().rain(74), 200);
        edges.sentence(12, "`day`: number of a day of rain");
        RainReservoir x = new RainReservoir();
        x.addRain(3, 1);
        x.addRain(4, 98);
        x.addRain(5, 1);
        edges.due("rain(0)", x.rain(0), 3);
        edges.due("rain(99)", x.rain(99), 5);
        edges.refusedIndex("rain(-1)", Stands::full, y -> y.rain(-1));
        edges.refusedIndex("rain(100)", Stands::full, y -> y.rain(100));
        edges.sentence(12, "Returns the rain.");
        RainReservoir z = new RainReservoir();
        z.addRain(0, 1);
        z.addRain(200, 1);
        edges.due("rain of 0", z.rain(0), 0);
        edges.due("rain of 200", z.rain(1), 200);
        edges.sentence(12, "Throws `IndexOutOfBoundsException` if there is no such day");
        edges.outsideIndex("rain()", Stands::fresh, 0, (y, v) -> y.rain(v));
        edges.outsideIndex("rain()", Stands::midst, Stands.midst().setting(8), (y, v) -> y.rain(v));
        edges.outsideIndex("rain()", Stands::full, 100, (y, v) -> y.rain(v));
        edges.refusedIndex("a day of rain that is undone", SetUpEdges::rainUndone, y -> y.rain(1));
    }

    private static RainReservoir rainUndone() {
        RainReservoir x = new RainReservoir();
        x.addRain(3, 1);
        x.addRain(4, 1);
        x.undo();
        return x;
    }
}
