/** Promises 1 to 12: the new object, roofs, users, settings and rains. */
final class SetUpTest {
    private final Checks checks;

    SetUpTest(Checks checks) {
        this.checks = checks;
    }

    void run() {
        newObject();
        addRoof();
        addUser();
        setDemand();
        setReservoir();
        setReservoirBelowTheLevel();
        setWays();
        setting();
        roof();
        user();
        userBehindTheLatestDay();
        addRain();
        addRandomRain();
        rain();
    }

    private void newObject() {
        checks.begin("promise 1");
        RainReservoir x = new RainReservoir();
        checks.due("NONE", RainReservoir.NONE, -1);
        checks.dueRow("settings", Rows.settings(x), 10000, 0, 0, 0, 3, 0, 0, 0, 0, 0, 0, 0);
        checks.dueRow("sums", Rows.sums(x), 0, 0, 0, 0, 0, 0, 0, 0, 0);
        checks.dueIndex(x, "roof(0, 0)", () -> x.roof(0, 0));
        checks.dueIndex(x, "user(0, 0)", () -> x.user(0, 0));
        checks.dueIndex(x, "rain(0)", () -> x.rain(0));
        checks.dueIndex(x, "day(0, 0)", () -> x.day(0, 0));
        checks.dueState(x, "undo()", () -> x.undo());
        checks.due("clearText()", x.clearText(), 0);
    }

    private void addRoof() {
        checks.begin("promise 2");
        RainReservoir x = new RainReservoir();
        int[][] wrong = {{0, 1, 0, 1}, {501, 1, 0, 1}, {1, 0, 0, 1}, {1, 101, 0, 1}, {1, 1, -1, 1},
            {1, 1, 1000, 1}, {1, 1, 0, 0}, {1, 1, 0, 50001},
            {Integer.MIN_VALUE, 1, 0, 1}, {1, 1, Integer.MAX_VALUE, 1}};
        for (int[] w : wrong) {
            checks.dueArgument(x, "addRoof of a wrong " + w[0] + " " + w[1] + " " + w[2] + " " + w[3],
                () -> x.addRoof(w[0], w[1], w[2], w[3]));
        }
        checks.due("addRoof(1, 1, 0, 1)", x.addRoof(1, 1, 0, 1), 0);
        checks.due("addRoof(500, 100, 999, 50000)", x.addRoof(500, 100, 999, 50000), 1);
        checks.dueRow("roof 0", Rows.roof(x, 0), 1, 1, 0, 1, 0);
        checks.dueRow("roof 1", Rows.roof(x, 1), 500, 100, 999, 50000, 0);
        checks.due("undo()", x.undo(), 1);
        checks.due("roofs", x.setting(6), 1);
        for (int number = 1; number < 6; number++) {
            checks.due("addRoof", x.addRoof(10 + number, 20, 30, 40), number);
        }
        checks.dueRow("roof 5", Rows.roof(x, 5), 15, 20, 30, 40, 0);
        checks.dueState(x, "a seventh roof", () -> x.addRoof(1, 1, 0, 1));
        checks.dueArgument(x, "a seventh roof, wrong", () -> x.addRoof(0, 1, 0, 1));
        emptyDiverterAfterUndo();
    }

    private void emptyDiverterAfterUndo() {
        RainReservoir x = new RainReservoir();
        x.addRoof(100, 100, 50, 1000);
        x.addRain(10, 1);
        x.run(1);
        checks.due("water", x.roof(0, 4), 50);
        x.undo();
        x.undo();
        x.undo();
        x.addRoof(100, 100, 50, 1000);
        checks.due("water of a roof added again", x.roof(0, 4), 0);
    }

    private void addUser() {
        checks.begin("promise 3");
        RainReservoir x = new RainReservoir();
        int[][] wrong = {{-1, 1}, {10000, 1}, {0, 0}, {0, 10}, {Integer.MAX_VALUE, 1}, {1, Integer.MIN_VALUE}};
        for (int[] w : wrong) {
            checks.dueArgument(x, "addUser of a wrong " + w[0] + " " + w[1], () -> x.addUser(w[0], w[1]));
        }
        checks.due("addUser(0, 1)", x.addUser(0, 1), 0);
        checks.due("addUser(9999, 9)", x.addUser(9999, 9), 1);
        checks.dueRow("user 0", Rows.user(x, 0), 0, 1, 0, 0);
        checks.dueRow("user 1", Rows.user(x, 1), 9999, 9, 0, 0);
        checks.due("undo()", x.undo(), 1);
        checks.due("users", x.setting(7), 1);
        for (int number = 1; number < 5; number++) {
            checks.due("addUser", x.addUser(10 + number, 2), number);
        }
        checks.dueRow("user 4", Rows.user(x, 4), 14, 2, 0, 0);
        checks.dueState(x, "a sixth user", () -> x.addUser(1, 1));
        checks.dueArgument(x, "a sixth user, wrong", () -> x.addUser(1, 0));
    }

    private void setDemand() {
        checks.begin("promise 4");
        RainReservoir x = new RainReservoir();
        checks.dueIndex(x, "setDemand without users", () -> x.setDemand(0, 1));
        x.addUser(5, 3);
        x.addUser(6, 4);
        checks.dueIndex(x, "setDemand(-1, 1)", () -> x.setDemand(-1, 1));
        checks.dueIndex(x, "setDemand(2, 1)", () -> x.setDemand(2, 1));
        checks.dueIndex(x, "setDemand(2, -1)", () -> x.setDemand(2, -1));
        checks.dueArgument(x, "setDemand(1, -1)", () -> x.setDemand(1, -1));
        checks.dueArgument(x, "setDemand(1, 10000)", () -> x.setDemand(1, 10000));
        checks.due("setDemand(1, 9999)", x.setDemand(1, 9999), 6);
        checks.due("setDemand(1, 0)", x.setDemand(1, 0), 9999);
        checks.dueRow("user 0", Rows.user(x, 0), 5, 3, 0, 0);
        checks.dueRow("user 1", Rows.user(x, 1), 0, 4, 0, 0);
        checks.due("undo()", x.undo(), 3);
        checks.due("demand", x.user(1, 0), 9999);
    }

    private void setReservoir() {
        checks.begin("promise 5");
        RainReservoir x = new RainReservoir();
        int[][] wrong = {{99, 0, 0}, {60001, 0, 0}, {100, -1, 0}, {100, 101, 0}, {100, 0, -1},
            {100, 0, 101}, {Integer.MIN_VALUE, 0, 0}};
        for (int[] w : wrong) {
            checks.dueArgument(x, "setReservoir of a wrong " + w[0] + " " + w[1] + " " + w[2],
                () -> x.setReservoir(w[0], w[1], w[2]));
        }
        checks.due("setReservoir(100, 100, 0)", x.setReservoir(100, 100, 0), 10000);
        checks.due("setReservoir(60000, 7, 60000)", x.setReservoir(60000, 7, 60000), 100);
        checks.dueRow("settings", Rows.settings(x), 60000, 7, 60000, 0, 3, 0, 0, 0, 0, 0, 0, 0);
        checks.due("undo()", x.undo(), 1);
        checks.dueRow("settings", Rows.settings(x), 100, 100, 0, 0, 3, 0, 0, 0, 0, 0, 0, 0);
    }

    private void setReservoirBelowTheLevel() {
        RainReservoir x = Rows.literARain();
        x.addRain(200, 2);
        x.run(2);
        checks.due("level", x.setting(10), 400);
        x.setReservoir(400, 0, 0);
        checks.due("overflow, the level at the capacity", x.sum(4), 0);
        x.setReservoir(250, 0, 0);
        checks.due("level", x.setting(10), 250);
        checks.due("overflow", x.sum(4), 150);
        checks.due("overflow of the day", x.day(1, 4), 0);
        checks.due("level at the end of the day", x.day(1, 0), 400);
        x.setReservoir(100, 0, 0);
        checks.due("overflow", x.sum(4), 300);
        x.undo();
        checks.due("overflow after undo", x.sum(4), 150);
        checks.due("level after undo", x.setting(10), 250);
    }

    private void setWays() {
        checks.begin("promise 6");
        RainReservoir x = new RainReservoir();
        int[][] wrong = {{-1, 1, 0}, {101, 1, 0}, {0, 0, 0}, {0, 21, 0}, {0, 1, -1}, {0, 1, 4}};
        for (int[] w : wrong) {
            checks.dueArgument(x, "setWays of a wrong " + w[0] + " " + w[1] + " " + w[2],
                () -> x.setWays(w[0], w[1], w[2]));
        }
        checks.due("setWays(100, 20, 3)", x.setWays(100, 20, 3), 0);
        checks.dueRow("settings", Rows.settings(x), 10000, 0, 0, 100, 20, 3, 0, 0, 0, 0, 0, 0);
        checks.due("setWays(0, 1, 2)", x.setWays(0, 1, 2), 3);
        checks.due("setWays(0, 1, 2)", x.setWays(0, 1, 2), 2);
        checks.due("undo()", x.undo(), 2);
        checks.due("undo()", x.undo(), 1);
        checks.dueRow("settings", Rows.settings(x), 10000, 0, 0, 100, 20, 3, 0, 0, 0, 0, 0, 0);
    }

    private void setting() {
        checks.begin("promise 7");
        RainReservoir x = new RainReservoir();
        x.setReservoir(5000, 300, 20);
        x.setWays(9, 8, 2);
        x.addRoof(100, 100, 0, 1000);
        x.addUser(1, 1);
        x.addUser(2, 1);
        x.addRain(5, 1);
        x.addRain(0, 6);
        x.run(3);
        // 500 come in; 4 evaporate, 3 are used; 493 stay: 4 evaporate, 3; 486: 4, 3; 479.
        checks.dueRow("settings", Rows.settings(x), 5000, 300, 20, 9, 8, 2, 1, 2, 7, 3, 479, 2);
        checks.dueArgument(x, "setting(-1)", () -> x.setting(-1));
        checks.dueArgument(x, "setting(12)", () -> x.setting(12));
        checks.dueArgument(x, "setting(MIN)", () -> x.setting(Integer.MIN_VALUE));
    }

    private void roof() {
        checks.begin("promise 8");
        RainReservoir x = new RainReservoir();
        x.addRoof(10, 50, 7, 90);
        x.addRoof(20, 60, 500, 91);
        x.addRain(3, 1);
        x.run(1);
        checks.dueRow("roof 0", Rows.roof(x, 0), 10, 50, 7, 90, 7);
        checks.dueRow("roof 1", Rows.roof(x, 1), 20, 60, 500, 91, 36);
        checks.dueIndex(x, "roof(-1, 0)", () -> x.roof(-1, 0));
        checks.dueIndex(x, "roof(2, 0)", () -> x.roof(2, 0));
        checks.dueIndex(x, "roof(2, 5)", () -> x.roof(2, 5));
        checks.dueIndex(x, "roof(MAX, 0)", () -> x.roof(Integer.MAX_VALUE, 0));
        checks.dueArgument(x, "roof(1, -1)", () -> x.roof(1, -1));
        checks.dueArgument(x, "roof(1, 5)", () -> x.roof(1, 5));
    }

    private void user() {
        checks.begin("promise 9");
        RainReservoir x = Rows.literARain();
        x.addUser(30, 2);
        x.addUser(20, 3);
        x.setWays(0, 3, 1);
        x.addRain(50, 1);
        x.addRain(40, 1);
        x.run(2);
        checks.dueRow("user 0", Rows.user(x, 0), 30, 2, 30, 60);
        checks.dueRow("user 1", Rows.user(x, 1), 20, 3, 10, 30);
        checks.dueIndex(x, "user(-1, 0)", () -> x.user(-1, 0));
        checks.dueIndex(x, "user(2, 0)", () -> x.user(2, 0));
        checks.dueIndex(x, "user(2, 4)", () -> x.user(2, 4));
        checks.dueArgument(x, "user(1, -1)", () -> x.user(1, -1));
        checks.dueArgument(x, "user(1, 4)", () -> x.user(1, 4));
    }

    private void userBehindTheLatestDay() {
        RainReservoir x = Rows.literARain();
        x.addUser(30, 2);
        x.addRain(50, 2);
        x.run(1);
        x.addUser(5, 1);
        checks.dueRow("user 0", Rows.user(x, 0), 30, 2, 30, 30);
        checks.dueRow("user 1", Rows.user(x, 1), 5, 1, 0, 0);
        x.setDemand(0, 0);
        x.run(1);
        checks.dueRow("user 0", Rows.user(x, 0), 0, 2, 0, 30);
        checks.dueRow("user 1", Rows.user(x, 1), 5, 1, 5, 5);
        x.run(0);
        checks.dueRow("user 1 after no day more", Rows.user(x, 1), 5, 1, 5, 5);
    }

    private void addRain() {
        checks.begin("promise 10");
        RainReservoir x = new RainReservoir();
        int[][] wrong = {{-1, 1}, {201, 1}, {0, 0}, {0, 101}, {0, Integer.MAX_VALUE}};
        for (int[] w : wrong) {
            checks.dueArgument(x, "addRain of a wrong " + w[0] + " " + w[1], () -> x.addRain(w[0], w[1]));
        }
        checks.due("addRain(200, 2)", x.addRain(200, 2), 2);
        checks.due("addRain(0, 1)", x.addRain(0, 1), 3);
        checks.dueRow("rains", Rows.rains(x), 200, 200, 0);
        checks.dueState(x, "addRain(1, 98)", () -> x.addRain(1, 98));
        checks.dueState(x, "addRain(1, 100)", () -> x.addRain(1, 100));
        checks.dueArgument(x, "addRain(201, 98)", () -> x.addRain(201, 98));
        checks.due("addRain(1, 97)", x.addRain(1, 97), 100);
        checks.due("rain(99)", x.rain(99), 1);
        checks.dueState(x, "addRain(1, 1)", () -> x.addRain(1, 1));
        checks.due("undo()", x.undo(), 2);
        checks.dueRow("rains", Rows.rains(x), 200, 200, 0);
        RainReservoir y = new RainReservoir();
        checks.due("addRain(7, 100)", y.addRain(7, 100), 100);
    }

    private void addRandomRain() {
        checks.begin("promise 11");
        RainReservoir x = new RainReservoir();
        int[][] wrong = {{-1, 1, 0, 1}, {1000000, 1, 0, 1}, {0, 0, 0, 1}, {0, 101, 0, 1}, {0, 1, -1, 1},
            {0, 1, 101, 1}, {0, 1, 0, 0}, {0, 1, 0, 201}};
        for (int[] w : wrong) {
            checks.dueArgument(x, "addRandomRain of a wrong " + w[0] + " " + w[1] + " " + w[2] + " " + w[3],
                () -> x.addRandomRain(w[0], w[1], w[2], w[3]));
        }
        // From 0: s is 12345, s / 65536 is 0, not less than 0; then 1406932606 / 65536 is 21468.
        checks.due("addRandomRain(0, 2, 0, 1)", x.addRandomRain(0, 2, 0, 1), 2);
        // 0 is less than 1, so s becomes 1406932606, and the rain is 1 + 21468 modulo 200.
        checks.due("addRandomRain(0, 1, 1, 200)", x.addRandomRain(0, 1, 1, 200), 3);
        checks.due("addRandomRain(999999, 1, 100, 1)", x.addRandomRain(999999, 1, 100, 1), 4);
        checks.dueRow("rains", Rows.rains(x), 0, 0, 69, 1);
        // The day behind: 654583775 / 65536 is 9988, whose last two digits are 88.
        checks.due("addRandomRain(0, 2, 88, 200)", x.addRandomRain(0, 2, 88, 200), 6);
        checks.dueRow("rains", Rows.rains(x), 0, 0, 69, 1, 69, 0);
        checks.due("undo()", x.undo(), 3);
        checks.due("days", x.setting(8), 4);
        checks.dueState(x, "addRandomRain(0, 97, 0, 1)", () -> x.addRandomRain(0, 97, 0, 1));
        checks.dueArgument(x, "addRandomRain(0, 97, 0, 0)", () -> x.addRandomRain(0, 97, 0, 0));
        checks.due("addRandomRain(5, 96, 50, 40)", x.addRandomRain(5, 96, 50, 40), 100);
        RainReservoir y = new RainReservoir();
        y.addRandomRain(999999, 12, 60, 200);
        checks.dueRow("rains of 999999", Rows.rains(y), 159, 0, 183, 56, 1, 2, 80, 147, 78, 0, 141, 0);
    }

    private void rain() {
        checks.begin("promise 12");
        RainReservoir x = new RainReservoir();
        x.addRain(3, 1);
        x.addRain(200, 1);
        checks.due("rain(0)", x.rain(0), 3);
        checks.due("rain(1)", x.rain(1), 200);
        checks.dueIndex(x, "rain(-1)", () -> x.rain(-1));
        checks.dueIndex(x, "rain(2)", () -> x.rain(2));
        checks.dueIndex(x, "rain(MIN)", () -> x.rain(Integer.MIN_VALUE));
    }
}
