/** Promises 27 and 28: undo and the digest. */
final class StateTest {
    private final Checks checks;

    StateTest(Checks checks) {
        this.checks = checks;
    }

    void run() {
        undo();
        undoEverything();
        undoAccounts();
        undoOfAFullObject();
        undoOfNoChange();
        onlySuccessfulCallsSave();
        digest();
    }

    private void undo() {
        checks.begin("promise 27");
        RainReservoir x = new RainReservoir();
        checks.dueState(x, "undo() of a new object", () -> x.undo());
        for (int i = 0; i < 5; i++) {
            x.addRain(i, 1);
        }
        x.addUser(1, 1);
        checks.due("undo()", x.undo(), 3);
        checks.due("users", x.setting(7), 0);
        checks.due("undo()", x.undo(), 2);
        checks.due("undo()", x.undo(), 1);
        checks.due("undo()", x.undo(), 0);
        checks.dueRow("rains", Rows.rains(x), 0, 1);
        checks.dueState(x, "a fifth undo()", () -> x.undo());
        x.addRain(7, 1);
        checks.due("undo() behind them", x.undo(), 0);
        checks.dueRow("rains", Rows.rains(x), 0, 1);
    }

    /** All that there is comes back, but for the text. */
    private void undoEverything() {
        RainReservoir x = new RainReservoir();
        x.addRoof(10, 100, 50, 1000);
        x.addUser(300, 2);
        x.addUser(7, 1);
        x.setReservoir(1000, 0, 700);
        x.setWays(10, 4, 2);
        x.addRain(40, 1);
        x.addRain(0, 5);
        x.run(3);
        x.setReservoir(500, 1, 2);
        long before = x.digest();
        x.restart();
        x.addUser(9, 8);
        x.setWays(1, 1, 1);
        x.addRain(30, 2);
        checks.due("undo()", x.undo(), 3);
        checks.due("undo()", x.undo(), 2);
        checks.due("undo()", x.undo(), 1);
        checks.due("undo()", x.undo(), 0);
        // The digest ends with the number of saved states: four before, none now.
        checks.due("digest", x.digest() + 4, before);
        checks.dueRow("settings", Rows.settings(x), 500, 1, 2, 10, 4, 2, 1, 2, 6, 3, 500, 2);
        checks.due("overflow that belongs to no day", x.sum(4), 200);
        Rows.append(x, "5;");
        x.parse();
        x.append('6');
        x.undo();
        checks.due("the text, as it is not saved", x.clearText(), 3);
    }

    private void undoAccounts() {
        RainReservoir x = Rows.literARain();
        x.addUser(5, 1);
        x.addRain(9, 3);
        x.run(2);
        x.restart();
        x.setDemand(0, 50);
        x.run(2);
        checks.dueRow("day 1", Rows.day(x, 1), 0, 9, 0, 0, 0, 0, 9, 41, 0, 0);
        x.undo();
        x.undo();
        checks.due("undo() of restart()", x.undo(), 1);
        checks.dueRow("day 0", Rows.day(x, 0), 4, 9, 0, 0, 0, 0, 5, 0, 0, 0);
        checks.dueRow("day 1", Rows.day(x, 1), 8, 9, 0, 0, 0, 0, 5, 0, 0, 0);
        checks.dueRow("user 0", Rows.user(x, 0), 5, 1, 5, 10);
        checks.due("longestShortage()", x.longestShortage(), 0);
    }

    /** As many roofs, users, days and bytes as there can be. */
    private void undoOfAFullObject() {
        RainReservoir x = new RainReservoir();
        for (int i = 0; i < 6; i++) {
            x.addRoof(500, 100, 999, 50000);
        }
        for (int i = 0; i < 5; i++) {
            x.addUser(9999, i + 5);
        }
        for (int i = 0; i < 60; i++) {
            x.append('0');
            x.append(';');
        }
        x.parse();
        x.addRain(200, 40);
        x.setWays(100, 20, 2);
        x.setReservoir(60000, 100, 200);
        x.run(100);
        checks.due("inflow", x.sum(1), 40 * 300000);
        checks.due("diverted", x.sum(2), 6 * 999);
        checks.due("spilled", x.sum(3), 40 * 300000 - 6 * 999);
        checks.dueDouble("reliability()", x.reliability(), 0.4);
        checks.due("bestRule()", x.bestRule(), 0);
        checks.due("sustainable()", x.sustainable(), -1);
        checks.due("capacityFor(60)", x.capacityFor(60), 56000);
        checks.due("gutterLoss(5)", x.gutterLoss(5), 40 * 50000 - 999);
        checks.due("restart()", x.restart(), 100);
        checks.due("undo()", x.undo(), 3);
        checks.due("sum of what was got after undo", x.sum(6), x.user(0, 3) + x.user(1, 3) + x.user(2, 3)
            + x.user(3, 3) + x.user(4, 3));
    }

    private void undoOfNoChange() {
        RainReservoir x = new RainReservoir();
        x.addUser(5, 1);
        x.setDemand(0, 5);
        x.run(0);
        x.parse();
        checks.due("undo() of parse()", x.undo(), 3);
        checks.due("undo() of run(0)", x.undo(), 2);
        checks.due("undo() of setDemand()", x.undo(), 1);
        checks.due("users", x.setting(7), 1);
        checks.due("undo() of addUser()", x.undo(), 0);
        checks.due("users", x.setting(7), 0);
    }

    private void onlySuccessfulCallsSave() {
        RainReservoir x = new RainReservoir();
        x.addUser(5, 1);
        checks.dueArgument(x, "addUser(-1, 1)", () -> x.addUser(-1, 1));
        checks.dueState(x, "run(1)", () -> x.run(1));
        x.append(';');
        x.parse();
        x.setting(0);
        x.sustainable();
        checks.due("undo()", x.undo(), 0);
        checks.due("users", x.setting(7), 0);
    }

    private static long add(long h, long... values) {
        for (long v : values) {
            h = 31 * h + v;
        }
        return h;
    }

    /** The digest by its description, from what the other methods answer. */
    static long described(RainReservoir x, int textLength, int savedStates) {
        long h = add(3203, textLength);
        h = add(h, Rows.settings(x));
        for (int roof = 0; roof < x.setting(6); roof++) {
            h = add(h, Rows.roof(x, roof));
        }
        for (int user = 0; user < x.setting(7); user++) {
            h = add(h, Rows.user(x, user));
        }
        h = add(h, Rows.rains(x));
        for (int day = 0; day < x.setting(9); day++) {
            h = add(h, Rows.day(x, day));
        }
        h = add(h, Rows.sums(x));
        return add(h, savedStates);
    }

    private void digest() {
        checks.begin("promise 28");
        RainReservoir x = new RainReservoir();
        checks.due("digest() of a new object", x.digest(), described(x, 0, 0));
        Rows.append(x, "5x2;0;");
        checks.due("digest() with a text", x.digest(), described(x, 6, 0));
        x.parse();
        checks.due("digest() with rains", x.digest(), described(x, 6, 1));
        x.addRoof(10, 100, 20, 100);
        x.addRoof(11, 99, 0, 40);
        x.addUser(30, 2);
        x.addUser(50, 3);
        x.setReservoir(200, 3, 90);
        x.setWays(30, 1, 2);
        x.run(2);
        checks.due("digest() with all", x.digest(), described(x, 6, 4));
        x.setReservoir(100, 3, 20);
        x.undo();
        checks.due("digest() after undo", x.digest(), described(x, 6, 3));
        x.run(1);
        x.clearText();
        checks.due("digest() at the end", x.digest(), described(x, 0, 4));
    }
}
