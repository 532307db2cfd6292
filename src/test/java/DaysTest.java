/** Promises 13 to 18: how a day goes, the rules for shares, and the accounts. */
final class DaysTest {
    private final Checks checks;

    DaysTest(Checks checks) {
        this.checks = checks;
    }

    void run() {
        wholeDay();
        runArguments();
        catchIsRoundedDown();
        diverters();
        dryLimitThatIsLowered();
        evaporationAndFloor();
        topUp();
        proportions();
        byOrder();
        inRounds();
        smallestFirst();
        oneRuleAfterAnother();
        noUsers();
        restart();
        day();
        sum();
        reliability();
        longestShortage();
    }

    private void wholeDay() {
        checks.begin("promise 13");
        RainReservoir x = new RainReservoir();
        x.addRoof(100, 90, 200, 2000);
        x.addUser(500, 1);
        x.addUser(900, 1);
        x.setReservoir(1500, 100, 300);
        x.setWays(20, 3, 0);
        x.addRain(30, 1);
        checks.due("run(1)", x.run(1), 1);
        // Caught are 2700: 200 diverted, 500 spilled, 2000 flow in; 500 overflow, 30 evaporate.
        // Of 1370, the users get 489 and 880, and the one that is left goes to the first.
        checks.dueRow("day 0", Rows.day(x, 0), 300, 2000, 200, 500, 500, 30, 1370, 30, 200, 0);
        checks.dueRow("user 0", Rows.user(x, 0), 500, 1, 490, 490);
        checks.dueRow("user 1", Rows.user(x, 1), 900, 1, 880, 880);
        checks.due("undo()", x.undo(), 3);
        checks.due("days done", x.setting(9), 0);
        checks.due("level", x.setting(10), 0);
        checks.due("diverter", x.roof(0, 4), 0);
        checks.due("got in all", x.user(0, 3), 0);
    }

    private void runArguments() {
        RainReservoir x = Rows.literARain();
        checks.dueArgument(x, "run(-1)", () -> x.run(-1));
        checks.dueArgument(x, "run(101)", () -> x.run(101));
        checks.dueState(x, "run(1) without rains", () -> x.run(1));
        checks.due("run(0)", x.run(0), 0);
        checks.due("undo() of it", x.undo(), 1);
        x.addRain(1, 3);
        checks.dueState(x, "run(4)", () -> x.run(4));
        checks.due("run(2)", x.run(2), 0);
        checks.dueState(x, "run(2) again", () -> x.run(2));
        checks.dueArgument(x, "run(101)", () -> x.run(101));
        checks.due("run(1)", x.run(1), 0);
        checks.due("days done", x.setting(9), 3);
        x.addRain(1, 97);
        checks.due("run(97)", x.run(97), 0);
        x.restart();
        checks.due("run(100)", x.run(100), 0);
    }

    private void catchIsRoundedDown() {
        RainReservoir x = new RainReservoir();
        x.addRoof(33, 77, 0, 100);
        x.addRoof(3, 33, 0, 100);
        x.addRain(3, 1);
        x.addRain(7, 1);
        x.addRain(200, 1);
        x.run(3);
        // 33 * 3 * 77 / 100 is 76, 3 * 3 * 33 / 100 is 2; then 177 and 6; then 5082 and 198.
        checks.dueRow("day 0", Rows.day(x, 0), 78, 78, 0, 0, 0, 0, 0, 0, 0, 0);
        checks.dueRow("day 1", Rows.day(x, 1), 184, 106, 0, 77, 0, 0, 0, 0, 0, 0);
        checks.dueRow("day 2", Rows.day(x, 2), 384, 200, 0, 5080, 0, 0, 0, 0, 0, 0);
    }

    private void diverters() {
        RainReservoir x = new RainReservoir();
        x.addRoof(1, 100, 15, 50000);
        x.addRoof(2, 100, 999, 50000);
        x.setWays(0, 2, 0);
        Rows.append(x, "10;0;8;0;0;0;1;");
        x.parse();
        x.run(7);
        checks.dueRow("day 0", Rows.day(x, 0), 0, 0, 30, 0, 0, 0, 0, 0, 0, 0);
        checks.dueRow("day 1", Rows.day(x, 1), 0, 0, 0, 0, 0, 0, 0, 0, 0, 0);
        checks.dueRow("day 2", Rows.day(x, 2), 3, 3, 21, 0, 0, 0, 0, 0, 0, 0);
        checks.dueRow("day 3", Rows.day(x, 3), 3, 0, 0, 0, 0, 0, 0, 0, 0, 0);
        checks.dueRow("day 4", Rows.day(x, 4), 3, 0, 0, 0, 0, 0, 0, 0, 0, 51);
        checks.dueRow("day 5", Rows.day(x, 5), 3, 0, 0, 0, 0, 0, 0, 0, 0, 0);
        checks.dueRow("day 6", Rows.day(x, 6), 3, 0, 3, 0, 0, 0, 0, 0, 0, 0);
        checks.due("water", x.roof(0, 4), 1);
        checks.due("dry days", x.setting(11), 0);
    }

    private void dryLimitThatIsLowered() {
        RainReservoir x = new RainReservoir();
        x.addRoof(1, 100, 50, 50000);
        x.setWays(0, 20, 0);
        x.addRain(10, 1);
        x.addRain(0, 21);
        x.run(4);
        x.setWays(0, 2, 0);
        checks.due("water", x.roof(0, 4), 10);
        x.run(1);
        checks.due("drained on the fourth dry day", x.day(4, 9), 10);
        checks.due("dry days", x.setting(11), 4);
        x.restart();
        x.setWays(0, 20, 0);
        x.run(20);
        checks.due("water after 19 dry days", x.roof(0, 4), 10);
        x.run(1);
        checks.due("water after 20 dry days", x.roof(0, 4), 0);
    }

    private void evaporationAndFloor() {
        RainReservoir x = Rows.literARain();
        x.addUser(40, 1);
        x.setReservoir(150, 60, 0);
        x.setWays(100, 3, 0);
        x.addRain(199, 1);
        x.addRain(0, 3);
        checks.due("run(4)", x.run(4), 3);
        // 150 are kept, 15 evaporate, 40 used; 95: 9, 26; 60: 6, below the floor; 54: 5.
        checks.dueRow("day 0", Rows.day(x, 0), 95, 199, 0, 0, 49, 15, 40, 0, 0, 0);
        checks.dueRow("day 1", Rows.day(x, 1), 60, 0, 0, 0, 0, 9, 26, 14, 0, 0);
        checks.dueRow("day 2", Rows.day(x, 2), 54, 0, 0, 0, 0, 6, 0, 40, 0, 0);
        checks.dueRow("day 3", Rows.day(x, 3), 49, 0, 0, 0, 0, 5, 0, 40, 0, 0);
    }

    private void topUp() {
        RainReservoir x = Rows.literARain();
        x.addUser(30, 1);
        x.setReservoir(100, 0, 80);
        x.addRain(0, 2);
        x.addRain(30, 1);
        x.addRain(50, 1);
        checks.due("run(4)", x.run(4), 1);
        checks.dueRow("day 0", Rows.day(x, 0), 80, 0, 0, 0, 0, 0, 0, 30, 80, 0);
        checks.dueRow("day 1", Rows.day(x, 1), 80, 0, 0, 0, 0, 0, 30, 0, 30, 0);
        checks.dueRow("day 2", Rows.day(x, 2), 80, 30, 0, 0, 10, 0, 30, 0, 10, 0);
        checks.dueRow("day 3", Rows.day(x, 3), 80, 50, 0, 0, 30, 0, 30, 0, 10, 0);
    }

    private void proportions() {
        int[] weights = {1, 2, 9, 9, 3};
        checks.dueRow("10 of 34", Rows.shares(0, 10, new int[] {7, 7, 0, 20}, weights), 3, 2, 0, 5);
        checks.dueRow("3 of 5", Rows.shares(0, 3, new int[] {1, 1, 1, 1, 1}, weights), 1, 1, 1, 0, 0);
        checks.dueRow("a user of nothing", Rows.shares(0, 3, new int[] {0, 2, 3}, weights), 0, 2, 1);
        checks.dueRow("nothing", Rows.shares(0, 0, new int[] {5, 6}, weights), 0, 0);
        checks.dueRow("just enough", Rows.shares(0, 11, new int[] {5, 6}, weights), 5, 6);
        checks.dueRow("more", Rows.shares(0, 200, new int[] {5, 6}, weights), 5, 6);
        checks.dueRow("200 of 49995",
            Rows.shares(0, 200, new int[] {9999, 9999, 9999, 9999, 9999}, weights), 40, 40, 40, 40, 40);
    }

    private void byOrder() {
        int[] weights = {1, 2, 9, 9, 3};
        checks.dueRow("95", Rows.shares(1, 95, new int[] {50, 20, 50, 10}, weights), 50, 20, 25, 0);
        checks.dueRow("70", Rows.shares(1, 70, new int[] {50, 20, 50, 10}, weights), 50, 20, 0, 0);
        checks.dueRow("40", Rows.shares(1, 40, new int[] {50, 20, 50, 10}, weights), 40, 0, 0, 0);
        checks.dueRow("enough", Rows.shares(1, 130, new int[] {50, 20, 50, 10}, weights), 50, 20, 50, 10);
    }

    private void inRounds() {
        int[] weights = {1, 3, 9};
        checks.dueRow("130", Rows.shares(2, 130, new int[] {100, 100, 5}, weights), 35, 90, 5);
        checks.dueRow("20", Rows.shares(2, 20, new int[] {100, 100, 5}, weights), 10, 10, 0);
        checks.dueRow("40", Rows.shares(2, 40, new int[] {100, 100, 5}, weights), 10, 30, 0);
        checks.dueRow("43", Rows.shares(2, 43, new int[] {100, 100, 5}, weights), 10, 30, 3);
        checks.dueRow("200", Rows.shares(2, 200, new int[] {100, 100, 5}, weights), 95, 100, 5);
        checks.dueRow("200 in many rounds", Rows.shares(2, 200, new int[] {9999, 1, 9999}, weights), 20, 1, 179);
        checks.dueRow("nothing", Rows.shares(2, 0, new int[] {9, 0, 9}, weights), 0, 0, 0);
        checks.dueRow("a user of nothing", Rows.shares(2, 12, new int[] {9, 0, 9}, weights), 9, 0, 3);
        checks.dueRow("enough", Rows.shares(2, 18, new int[] {9, 0, 9}, weights), 9, 0, 9);
    }

    private void smallestFirst() {
        int[] weights = {1, 2, 9, 9, 3};
        checks.dueRow("95", Rows.shares(3, 95, new int[] {50, 20, 50, 10}, weights), 50, 20, 15, 10);
        checks.dueRow("equal ones", Rows.shares(3, 7, new int[] {5, 5, 5}, weights), 5, 2, 0);
        checks.dueRow("descending", Rows.shares(3, 7, new int[] {5, 4, 3, 2, 1}, weights), 0, 1, 3, 2, 1);
        checks.dueRow("enough", Rows.shares(3, 15, new int[] {5, 4, 3, 2, 1}, weights), 5, 4, 3, 2, 1);
    }

    /** A rule leaves nothing behind that another one could meet. */
    private void oneRuleAfterAnother() {
        RainReservoir x = Rows.literARain();
        int[] demands = {50, 20, 50, 10, 40};
        for (int i = 0; i < demands.length; i++) {
            x.addUser(demands[i], i + 1);
        }
        x.addRain(95, 6);
        x.setWays(0, 3, 3);
        x.run(1);
        checks.dueRow("rule 3", Rows.latest(x), 25, 20, 0, 10, 40);
        x.setWays(0, 3, 1);
        x.run(1);
        checks.dueRow("rule 1", Rows.latest(x), 50, 20, 25, 0, 0);
        x.setDemand(1, 60);
        x.setWays(0, 3, 3);
        x.run(2);
        checks.dueRow("rule 3 twice", Rows.latest(x), 45, 0, 0, 10, 40);
        x.setWays(0, 3, 2);
        x.run(1);
        checks.dueRow("rule 2", Rows.latest(x), 10, 20, 30, 10, 25);
        x.setWays(0, 3, 0);
        x.run(1);
        checks.dueRow("rule 0", Rows.latest(x), 23, 28, 22, 4, 18);
    }

    private void noUsers() {
        RainReservoir x = new RainReservoir();
        x.addRain(5, 2);
        checks.due("run(2) without roofs and users", x.run(2), 0);
        checks.dueRow("day 1", Rows.day(x, 1), 0, 0, 0, 0, 0, 0, 0, 0, 0, 0);
    }

    private void restart() {
        checks.begin("promise 14");
        RainReservoir x = new RainReservoir();
        checks.due("restart() of a new object", x.restart(), 0);
        checks.due("undo() of it", x.undo(), 0);
        x.addRoof(10, 100, 50, 1000);
        x.addUser(300, 1);
        x.setReservoir(1000, 0, 700);
        x.addRain(40, 1);
        x.addRain(0, 3);
        x.run(3);
        x.setReservoir(500, 0, 100);
        long before = x.digest();
        checks.due("restart()", x.restart(), 3);
        checks.dueRow("settings", Rows.settings(x), 500, 0, 100, 0, 3, 0, 1, 1, 4, 0, 0, 0);
        checks.dueRow("sums", Rows.sums(x), 0, 0, 0, 0, 0, 0, 0, 0, 0);
        checks.dueRow("roof", Rows.roof(x, 0), 10, 100, 50, 1000, 0);
        checks.dueRow("user", Rows.user(x, 0), 300, 1, 0, 0);
        checks.dueIndex(x, "day(0, 0)", () -> x.day(0, 0));
        checks.due("undo()", x.undo(), 3);
        checks.due("overflow that belongs to no day", x.sum(4), 200);
        checks.due("day(2, 0)", x.day(2, 0), 700);
        x.run(0);
        x.undo();
        checks.due("digest after undo but for the saved states", x.digest() + 1, before);
    }

    private void day() {
        checks.begin("promise 15");
        RainReservoir x = Rows.literARain();
        x.addRain(5, 3);
        x.run(2);
        checks.due("day(1, 0)", x.day(1, 0), 10);
        checks.dueIndex(x, "day(-1, 0)", () -> x.day(-1, 0));
        checks.dueIndex(x, "day(2, 0), not done", () -> x.day(2, 0));
        checks.dueIndex(x, "day(3, 0)", () -> x.day(3, 0));
        checks.dueIndex(x, "day(2, 10)", () -> x.day(2, 10));
        checks.dueArgument(x, "day(1, 10)", () -> x.day(1, 10));
        checks.dueArgument(x, "day(1, -1)", () -> x.day(1, -1));
        demandOfThatDay();
    }

    private void demandOfThatDay() {
        RainReservoir x = Rows.literARain();
        x.addUser(20, 1);
        x.addRain(5, 1);
        x.run(1);
        x.setDemand(0, 9999);
        x.addUser(50, 1);
        checks.due("lacked, after demands changed", x.day(0, 7), 15);
        checks.due("got", x.day(0, 6), 5);
    }

    private void sum() {
        checks.begin("promise 16");
        RainReservoir x = new RainReservoir();
        x.addRoof(10, 100, 50, 1000);
        x.addUser(300, 1);
        x.setReservoir(1000, 50, 700);
        x.setWays(10, 2, 0);
        Rows.append(x, "200;0x2;3;");
        x.parse();
        x.run(4);
        // 2000 caught: 50 diverted, 950 spilled, 1000 in; 10 evaporate, 300 used: 690, 10 mains.
        checks.dueRow("day 0", Rows.day(x, 0), 700, 1000, 50, 950, 0, 10, 300, 0, 10, 0);
        checks.dueRow("day 1", Rows.day(x, 1), 700, 0, 0, 0, 0, 7, 300, 0, 307, 0);
        checks.dueRow("day 2", Rows.day(x, 2), 700, 0, 0, 0, 0, 7, 300, 0, 307, 50);
        checks.dueRow("day 3", Rows.day(x, 3), 700, 0, 30, 0, 0, 7, 300, 0, 307, 0);
        x.setReservoir(640, 0, 0);
        checks.dueRow("sums", Rows.sums(x), 1000, 80, 950, 60, 31, 1200, 0, 931, 50);
        checks.dueArgument(x, "sum(0)", () -> x.sum(0));
        checks.dueArgument(x, "sum(10)", () -> x.sum(10));
        checks.dueArgument(x, "sum(-1)", () -> x.sum(-1));
    }

    private RainReservoir shortOn(String rains) {
        RainReservoir x = Rows.literARain();
        x.addUser(10, 1);
        Rows.append(x, rains);
        x.parse();
        return x;
    }

    private void reliability() {
        checks.begin("promise 17");
        RainReservoir x = shortOn("10;9;10;");
        checks.dueDouble("reliability() without days", x.reliability(), 1.0);
        x.run(1);
        checks.dueDouble("reliability()", x.reliability(), 1.0);
        x.run(2);
        checks.dueDouble("reliability()", x.reliability(), 2.0 / 3.0);
        x.restart();
        checks.dueDouble("reliability() after restart", x.reliability(), 1.0);
        RainReservoir y = shortOn("9;");
        y.run(1);
        checks.dueDouble("reliability() of a short day", y.reliability(), 0.0);
    }

    private void longestShortage() {
        checks.begin("promise 18");
        RainReservoir x = shortOn("0x2;10;9x3;10;9;");
        checks.due("without days", x.longestShortage(), 0);
        x.run(1);
        checks.due("1 day", x.longestShortage(), 1);
        x.run(2);
        checks.due("3 days", x.longestShortage(), 2);
        x.run(2);
        checks.due("5 days", x.longestShortage(), 2);
        x.run(1);
        checks.due("6 days", x.longestShortage(), 3);
        x.run(2);
        checks.due("8 days", x.longestShortage(), 3);
        x.restart();
        checks.due("after restart", x.longestShortage(), 0);
        x.setDemand(0, 0);
        x.run(1);
        checks.due("1 day that is not short", x.longestShortage(), 0);
        RainReservoir y = shortOn("10x5;");
        y.run(5);
        checks.due("no short day", y.longestShortage(), 0);
    }
}
