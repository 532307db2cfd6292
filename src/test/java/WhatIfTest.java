/** Promises 19 to 23: the what-if questions, on all days of rain from day 0 on. */
final class WhatIfTest {
    private final Checks checks;

    WhatIfTest(Checks checks) {
        this.checks = checks;
    }

    void run() {
        shortDaysWith();
        topUpAboveTheCapacity();
        capacityFor();
        capacityForTheGreatest();
        bestRule();
        bestRuleOverDays();
        eachTryBeginsEmpty();
        sustainable();
        gutterLoss();
        nothingChanges();
    }

    /** 2000 liters on the first day, none on the three days behind it, and a demand of 700. */
    private RainReservoir oneRain() {
        RainReservoir x = new RainReservoir();
        x.addRoof(100, 100, 0, 50000);
        x.addUser(700, 1);
        x.addRain(20, 1);
        x.addRain(0, 3);
        return x;
    }

    private void shortDaysWith() {
        checks.begin("promise 19");
        RainReservoir x = oneRain();
        checks.dueArgument(x, "shortDaysWith(99)", () -> x.shortDaysWith(99));
        checks.dueArgument(x, "shortDaysWith(60001)", () -> x.shortDaysWith(60001));
        checks.due("shortDaysWith(100)", x.shortDaysWith(100), 4);
        checks.due("shortDaysWith(699)", x.shortDaysWith(699), 4);
        checks.due("shortDaysWith(700)", x.shortDaysWith(700), 3);
        checks.due("shortDaysWith(1399)", x.shortDaysWith(1399), 3);
        checks.due("shortDaysWith(1400)", x.shortDaysWith(1400), 2);
        checks.due("shortDaysWith(60000)", x.shortDaysWith(60000), 2);
        x.run(3);
        checks.due("shortDaysWith(1400) after days", x.shortDaysWith(1400), 2);
        x.setReservoir(700, 0, 0);
        checks.due("shortDaysWith(1400) of a smaller one", x.shortDaysWith(1400), 2);
        checks.due("shortDaysWith(100) without rains", new RainReservoir().shortDaysWith(100), 0);
    }

    private void topUpAboveTheCapacity() {
        RainReservoir x = new RainReservoir();
        x.addUser(150, 1);
        x.addRain(0, 3);
        x.setReservoir(1000, 0, 800);
        checks.due("shortDaysWith(1000)", x.shortDaysWith(1000), 1);
        checks.due("shortDaysWith(150)", x.shortDaysWith(150), 1);
        checks.due("shortDaysWith(149)", x.shortDaysWith(149), 3);
        x.setReservoir(1000, 500, 800);
        checks.due("shortDaysWith(1000), a floor", x.shortDaysWith(1000), 1);
        checks.due("shortDaysWith(650), a floor", x.shortDaysWith(650), 1);
        checks.due("shortDaysWith(649), a floor", x.shortDaysWith(649), 3);
        checks.due("shortDaysWith(400), the floor above", x.shortDaysWith(400), 3);
    }

    private void capacityFor() {
        checks.begin("promise 20");
        RainReservoir x = oneRain();
        checks.dueArgument(x, "capacityFor(-1)", () -> x.capacityFor(-1));
        checks.dueArgument(x, "capacityFor(101)", () -> x.capacityFor(101));
        checks.due("capacityFor(100)", x.capacityFor(100), 500);
        checks.due("capacityFor(4)", x.capacityFor(4), 500);
        checks.due("capacityFor(3)", x.capacityFor(3), 1000);
        checks.due("capacityFor(2)", x.capacityFor(2), 1500);
        checks.due("capacityFor(1)", x.capacityFor(1), -1);
        checks.due("capacityFor(0)", x.capacityFor(0), -1);
        checks.due("capacityFor(0) without rains", new RainReservoir().capacityFor(0), 500);
    }

    private void capacityForTheGreatest() {
        RainReservoir x = new RainReservoir();
        x.addRoof(500, 100, 0, 50000);
        x.addRoof(500, 100, 0, 50000);
        x.addUser(9999, 1);
        x.addUser(9999, 1);
        x.addUser(9999, 1);
        x.addUser(3, 1);
        x.addRain(200, 1);
        x.addRain(0, 1);
        checks.due("capacityFor(0), two days of 30000", x.capacityFor(0), 60000);
        x.setDemand(3, 4);
        checks.due("capacityFor(0), two days of 30001", x.capacityFor(0), -1);
        checks.due("capacityFor(1), two days of 30001", x.capacityFor(1), 30500);
    }

    /** So much water on each of the days, for two users. */
    private RainReservoir twoUsers(int water, int days, int[] first, int[] second) {
        RainReservoir x = Rows.literARain();
        x.addUser(first[0], first[1]);
        x.addUser(second[0], second[1]);
        x.addRain(water, days);
        return x;
    }

    private void bestRule() {
        checks.begin("promise 21");
        checks.due("bestRule() of a new object", new RainReservoir().bestRule(), 0);
        // The greatest lacks by the rules 0 to 3 are 55, 60, 60, 60.
        checks.due("a small and a big user", twoUsers(50, 1, new int[] {10, 1}, new int[] {100, 1}).bestRule(), 0);
        // They are 54, 50, 60, 60.
        checks.due("a big and a small user", twoUsers(50, 1, new int[] {100, 1}, new int[] {10, 9}).bestRule(), 1);
        // They are 34, 50, 30, 50.
        checks.due("weights", twoUsers(100, 1, new int[] {50, 3}, new int[] {100, 9}).bestRule(), 2);
        RainReservoir enough = twoUsers(200, 2, new int[] {50, 3}, new int[] {100, 9});
        enough.setWays(0, 3, 3);
        checks.due("enough for all", enough.bestRule(), 0);
        checks.due("the rule stays", enough.setting(5), 3);
    }

    private void bestRuleOverDays() {
        // 100 liters on each of two days, of which none is done: they are 68, 100, 60, 100.
        RainReservoir x = twoUsers(111, 2, new int[] {50, 3}, new int[] {100, 9});
        x.setReservoir(100, 0, 0);
        checks.due("two days", x.bestRule(), 2);
        x.run(2);
        x.setDemand(0, 0);
        checks.due("with a demand that is now 0", x.bestRule(), 0);
    }

    /** What one try leaves in the reservoir is not there for the next. */
    private void eachTryBeginsEmpty() {
        RainReservoir x = twoUsers(0, 1, new int[] {10, 1}, new int[] {20, 1});
        x.addRain(100, 1);
        checks.due("bestRule(), water left at the end", x.bestRule(), 0);
        checks.due("shortDaysWith(100)", x.shortDaysWith(100), 1);
        checks.due("shortDaysWith(100) again", x.shortDaysWith(100), 1);
        checks.due("sustainable(), a dry day first", x.sustainable(), -1);
        RainReservoir y = twoUsers(150, 1, new int[] {60, 1}, new int[] {40, 1});
        y.setReservoir(1000, 60, 0);
        checks.due("sustainable(), a floor", y.sustainable(), 90);
    }

    private void sustainable() {
        checks.begin("promise 22");
        RainReservoir x = new RainReservoir();
        x.addRoof(100, 100, 0, 50000);
        x.setReservoir(1000, 0, 0);
        checks.due("without users", x.sustainable(), 300);
        x.addUser(500, 1);
        x.addUser(200, 1);
        checks.due("without rains", x.sustainable(), 300);
        x.addRain(10, 3);
        checks.due("1000 a day for 700", x.sustainable(), 140);
        x.addRain(0, 1);
        checks.due("a dry day behind, 1000 for two days", x.sustainable(), 70);
        checks.due("the demand stays", x.user(0, 0), 500);
        x.restart();
        x.run(4);
        checks.due("after days", x.sustainable(), 70);
        RainReservoir dry = new RainReservoir();
        dry.addRain(0, 1);
        dry.addUser(20, 1);
        checks.due("no water for 20", dry.sustainable(), -1);
        dry.setDemand(0, 19);
        checks.due("no water for 19, of which 5 percent are 0", dry.sustainable(), 5);
        dry.setDemand(0, 0);
        checks.due("no water for 0", dry.sustainable(), 300);
        RainReservoir great = new RainReservoir();
        great.addRoof(100, 100, 0, 50000);
        great.addUser(9999, 1);
        great.setReservoir(60000, 0, 0);
        great.addRain(200, 3);
        checks.due("20000 a day for 9999", great.sustainable(), 200);
        great.setDemand(0, 6666);
        checks.due("20000 a day for 6666", great.sustainable(), 300);
    }

    private void gutterLoss() {
        checks.begin("promise 23");
        RainReservoir x = new RainReservoir();
        checks.dueIndex(x, "gutterLoss(0) without roofs", () -> x.gutterLoss(0));
        x.addRoof(10, 100, 30, 50);
        x.addRoof(20, 100, 0, 100);
        checks.due("without rains", x.gutterLoss(0), 0);
        Rows.append(x, "10;10;0x3;9;1;");
        x.parse();
        // The first roof catches 100, 100, 90, 10; its diverter takes 30, 0, 30, 0.
        checks.due("gutterLoss(0)", x.gutterLoss(0), 20 + 50 + 10);
        checks.due("gutterLoss(1)", x.gutterLoss(1), 100 + 100 + 80);
        x.run(4);
        checks.due("gutterLoss(0) after days", x.gutterLoss(0), 80);
        x.setWays(0, 4, 0);
        checks.due("gutterLoss(0), not drained", x.gutterLoss(0), 20 + 50 + 40);
        checks.dueIndex(x, "gutterLoss(-1)", () -> x.gutterLoss(-1));
        checks.dueIndex(x, "gutterLoss(2)", () -> x.gutterLoss(2));
    }

    private void nothingChanges() {
        checks.begin("promises 19 to 23");
        RainReservoir x = oneRain();
        x.addRoof(50, 50, 20, 10);
        x.addUser(100, 2);
        x.setWays(7, 2, 3);
        x.setReservoir(1200, 100, 200);
        x.run(3);
        long before = x.digest();
        x.shortDaysWith(500);
        x.capacityFor(1);
        x.bestRule();
        x.sustainable();
        x.gutterLoss(1);
        checks.due("digest", x.digest(), before);
        checks.due("run(1) after questions", x.run(1), 1);
    }
}
