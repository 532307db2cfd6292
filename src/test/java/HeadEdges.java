/** Boundary cases of the document's head: the object, roofs, users, reservoir, rains, exceptions. */
final class HeadEdges {
    private final Edges edges;

    HeadEdges(Edges edges) {
        this.edges = edges;
    }

    void run() {
        calls();
        dearCalls();
        wholeLiters();
        division();
        roofs();
        area();
        yieldOfARoof();
        flush();
        gutter();
        newDiverter();
        users();
        demandAndWeight();
        capacity();
        floor();
        topUp();
        evaporation();
        level();
        rains();
        liter();
        undoableCallsSave();
        undoableCallsThatChangeNothing();
        fourStates();
        textIsNotSaved();
        refusedCallsChangeNothing();
        orderOfExceptions();
        none();
    }

    private void calls() {
        edges.sentence(0, "An object is used for at most 512 calls after it has been made;");
        RainReservoir x = new RainReservoir();
        for (int call = 1; call <= 508; call += 2) {
            edges.due("append() as call " + call, x.append('5'), 1);
            edges.due("clearText() as call " + (call + 1), x.clearText(), 1);
        }
        x.addRain(7, 2);
        edges.due("run() as call 510", x.run(1), 0);
        RainReservoir twin = new RainReservoir();
        twin.addRain(7, 2);
        twin.run(1);
        edges.due("digest() as call 511", x.digest(), twin.digest());
        edges.due("undo() as call 512", x.undo(), 1);
    }

    private void dearCalls() {
        RainReservoir x = Stands.full();
        RainReservoir twin = Stands.full();
        long digest = twin.digest();
        int capacity = twin.capacityFor(0);
        int percent = twin.sustainable();
        for (int i = 0; i < 120; i++) {
            edges.due("capacityFor(0) again", x.capacityFor(0), capacity);
            edges.due("sustainable() again", x.sustainable(), percent);
            edges.due("digest() again", x.digest(), digest);
        }
    }

    private void wholeLiters() {
        edges.sentence(0, "All amounts of water are whole liters.");
        RainReservoir x = new RainReservoir();
        x.addRoof(1, 1, 0, 50000);
        x.addRain(99, 3);
        x.addRain(100, 1);
        x.run(4);
        // 0.99 liters a day are none, and do not add up.
        edges.due("inflow of 99 millimeters", x.day(2, 1), 0);
        edges.due("inflow of 100 millimeters", x.day(3, 1), 1);
        edges.due("level", x.setting(10), 1);
    }

    private void division() {
        edges.sentence(0, "a / b means division rounded down.");
        RainReservoir x = new RainReservoir();
        x.addRoof(3, 33, 0, 50000);
        x.setWays(100, 3, 0);
        x.addRain(3, 1);
        x.addRain(101, 1);
        x.run(2);
        edges.due("inflow of 2.97", x.day(0, 1), 2);
        edges.due("evaporation of 0.2", x.day(0, 5), 0);
        edges.due("inflow of 99.99", x.day(1, 1), 99);
        edges.due("evaporation of 10.1", x.day(1, 5), 10);
    }

    private void roofs() {
        edges.sentence(0, "There are at most 6 roofs, numbered from 0.");
        RainReservoir x = new RainReservoir();
        for (int number = 0; number < 6; number++) {
            edges.due("addRoof()", x.addRoof(10 + number, 20, 30, 40), number);
        }
        edges.due("number of roofs", x.setting(6), 6);
        edges.due("area of roof 0", x.roof(0, 0), 10);
        edges.due("area of roof 5", x.roof(5, 0), 15);
        edges.refusedState("a seventh roof", Stands::full, y -> y.addRoof(1, 1, 0, 1));
        edges.refusedIndex("roof(6, 0)", Stands::full, y -> y.roof(6, 0));
        edges.refusedIndex("roof(-1, 0)", Stands::full, y -> y.roof(-1, 0));
    }

    /** What flows into the reservoir on one day from a single roof. */
    private static long inflow(int area, int yield, int flush, int gutter, int rain) {
        RainReservoir x = new RainReservoir();
        x.addRoof(area, yield, flush, gutter);
        x.addRain(rain, 1);
        x.run(1);
        return x.day(0, 1);
    }

    private void area() {
        edges.sentence(0, "A roof has an area, 1 to 500 square meters;");
        edges.due("inflow from 1 square meter", inflow(1, 100, 0, 50000, 100), 100);
        edges.due("inflow from 500 square meters", inflow(500, 100, 0, 50000, 100), 50000);
        edges.refusedArgument("an area of 0", Stands::midst, x -> x.addRoof(0, 100, 0, 50000));
        edges.refusedArgument("an area of 501", Stands::midst, x -> x.addRoof(501, 100, 0, 50000));
    }

    private void yieldOfARoof() {
        edges.sentence(0, "a yield, 1 to 100 percent;");
        edges.due("inflow with 1 percent", inflow(100, 1, 0, 50000, 200), 200);
        edges.due("inflow with 100 percent", inflow(100, 100, 0, 50000, 200), 20000);
        edges.refusedArgument("a yield of 0", Stands::midst, x -> x.addRoof(100, 0, 0, 50000));
        edges.refusedArgument("a yield of 101", Stands::midst, x -> x.addRoof(100, 101, 0, 50000));
    }

    private void flush() {
        edges.sentence(0, "a flush, 0 to 999 liters, the capacity of its diverter;");
        edges.due("inflow with a flush of 0", inflow(10, 100, 0, 50000, 100), 1000);
        edges.due("inflow with a flush of 999", inflow(10, 100, 999, 50000, 100), 1);
        edges.refusedArgument("a flush of -1", Stands::midst, x -> x.addRoof(10, 100, -1, 50000));
        edges.refusedArgument("a flush of 1000", Stands::midst, x -> x.addRoof(10, 100, 1000, 50000));
    }

    private void gutter() {
        edges.sentence(0, "and a gutter, 1 to 50000 liters a day.");
        edges.due("inflow by a gutter of 1", inflow(500, 100, 0, 1, 200), 1);
        edges.due("inflow by a gutter of 50000", inflow(500, 100, 0, 50000, 200), 50000);
        edges.refusedArgument("a gutter of 0", Stands::midst, x -> x.addRoof(500, 100, 0, 0));
        edges.refusedArgument("a gutter of 50001", Stands::midst, x -> x.addRoof(500, 100, 0, 50001));
    }

    private void newDiverter() {
        edges.sentence(0, "A diverter holds water, initially none.");
        RainReservoir x = new RainReservoir();
        x.addRoof(1, 100, 999, 50000);
        edges.due("water before days", x.roof(0, 4), 0);
        x.addRain(200, 6);
        x.run(5);
        edges.due("water of 999 after 1000 liters", x.roof(0, 4), 999);
        x.addRoof(1, 100, 999, 50000);
        edges.due("water of a roof behind the days", x.roof(1, 4), 0);
        x.run(1);
        edges.due("what the new diverter took", x.day(5, 2), 200);
        edges.due("water of the new diverter", x.roof(1, 4), 200);
    }

    private void users() {
        edges.sentence(0, "There are at most 5 users, numbered from 0.");
        RainReservoir x = new RainReservoir();
        for (int number = 0; number < 5; number++) {
            edges.due("addUser()", x.addUser(10 + number, 2), number);
        }
        edges.due("number of users", x.setting(7), 5);
        edges.due("demand of user 0", x.user(0, 0), 10);
        edges.due("demand of user 4", x.user(4, 0), 14);
        edges.refusedState("a sixth user", Stands::full, y -> y.addUser(1, 1));
        edges.refusedIndex("user(5, 0)", Stands::full, y -> y.user(5, 0));
        edges.refusedIndex("user(-1, 0)", Stands::full, y -> y.user(-1, 0));
    }

    private void demandAndWeight() {
        edges.sentence(0, "A user has a demand, 0 to 9999 liters a day, and a weight, 1 to 9.");
        // By weights, in rounds: 10 liters for the weight 1, the other 90 for the weight 9.
        edges.dueRow("the weights 9 and 1", Rows.shares(2, 101, new int[] {9999, 9999}, 9, 1), 91, 10);
        edges.dueRow("the demands 0 and 1", Rows.shares(0, 1, new int[] {0, 1}, 1, 1), 0, 1);
        RainReservoir x = Stands.roof(100);
        x.addUser(9999, 9);
        x.addRain(100, 1);
        edges.due("run() for a demand of 9999", x.run(1), 0);
        edges.due("what is left of 10000", x.setting(10), 1);
        edges.refusedArgument("a demand of -1", Stands::midst, y -> y.addUser(-1, 1));
        edges.refusedArgument("a demand of 10000", Stands::midst, y -> y.addUser(10000, 1));
        edges.refusedArgument("a weight of 0", Stands::midst, y -> y.addUser(1, 0));
        edges.refusedArgument("a weight of 10", Stands::midst, y -> y.addUser(1, 10));
    }

    /** The level after a day with so many millimeters, of which each is 500 liters. */
    private static long levelWith(int capacity, int rain) {
        RainReservoir x = Stands.roof(500);
        x.addRain(rain, 2);
        if (capacity > 0) {
            x.setReservoir(capacity, 0, 0);
        }
        x.run(2);
        return x.setting(10);
    }

    private void capacity() {
        edges.sentence(0, "It has a capacity, 100 to 60000, initially 10000;");
        edges.due("level with a capacity of 100", levelWith(100, 100), 100);
        edges.due("level with a capacity of 60000", levelWith(60000, 100), 60000);
        edges.due("level with the initial capacity", levelWith(0, 100), 10000);
        edges.due("the initial capacity", new RainReservoir().setting(0), 10000);
        edges.refusedArgument("a capacity of 99", Stands::midst, x -> x.setReservoir(99, 0, 0));
        edges.refusedArgument("a capacity of 60001", Stands::midst, x -> x.setReservoir(60001, 0, 0));
    }

    private void floor() {
        edges.sentence(0, "a pump floor, 0 to the capacity, initially 0;");
        edges.due("the initial floor", new RainReservoir().setting(1), 0);
        RainReservoir x = Rows.literARain();
        x.addUser(1, 1);
        x.setReservoir(100, 100, 0);
        x.addRain(100, 2);
        edges.due("run(1) with the floor at the capacity", x.run(1), 1);
        edges.due("level", x.setting(10), 100);
        x.setReservoir(100, 0, 0);
        edges.due("run(1) with a floor of 0", x.run(1), 0);
        edges.refusedArgument("a floor of -1", Stands::midst, y -> y.setReservoir(100, -1, 0));
        edges.refusedArgument("a floor above the capacity", Stands::midst, y -> y.setReservoir(100, 101, 0));
    }

    private void topUp() {
        edges.sentence(0, "a top-up level, 0 to the capacity, initially 0;");
        edges.due("the initial top-up level", new RainReservoir().setting(2), 0);
        RainReservoir x = new RainReservoir();
        x.addRain(0, 2);
        x.run(1);
        edges.due("mains water with the initial top-up level", x.day(0, 8), 0);
        x.setReservoir(100, 0, 100);
        x.run(1);
        edges.due("mains water with the top-up level at the capacity", x.day(1, 8), 100);
        edges.refusedArgument("a top-up level of -1", Stands::midst, y -> y.setReservoir(100, 0, -1));
        edges.refusedArgument("a top-up level above the capacity", Stands::midst, y -> y.setReservoir(100, 0, 101));
    }

    private void evaporation() {
        edges.sentence(0, "and an evaporation, 0 to 100 thousandths a day, initially 0.");
        edges.due("the initial evaporation", new RainReservoir().setting(3), 0);
        RainReservoir x = Stands.roof(50);
        x.addRain(200, 1);
        x.addRain(0, 2);
        x.run(1);
        edges.due("what evaporates initially", x.day(0, 5), 0);
        x.setWays(100, 3, 0);
        x.run(1);
        edges.due("what evaporates of 10000 by 100 thousandths", x.day(1, 5), 1000);
        x.setWays(0, 3, 0);
        x.run(1);
        edges.due("what evaporates by none", x.day(2, 5), 0);
        edges.refusedArgument("an evaporation of -1", Stands::midst, y -> y.setWays(-1, 3, 0));
        edges.refusedArgument("an evaporation of 101", Stands::midst, y -> y.setWays(101, 3, 0));
    }

    private void level() {
        edges.sentence(0, "Its level is initially 0.");
        RainReservoir x = Rows.literARain();
        edges.due("level", x.setting(10), 0);
        x.addUser(1, 1);
        x.addRain(0, 1);
        edges.due("run(1) without rain", x.run(1), 1);
        edges.due("what the user got", x.user(0, 2), 0);
    }

    private void rains() {
        edges.sentence(0, "There are at most 100 days of rain, numbered from 0, each with 0 to 200 millimeters.");
        RainReservoir x = new RainReservoir();
        x.addRain(0, 1);
        edges.due("addRain() to 100 days", x.addRain(200, 99), 100);
        edges.due("rain(0)", x.rain(0), 0);
        edges.due("rain(99)", x.rain(99), 200);
        edges.refusedState("a day behind 100", Stands::full, y -> y.addRain(0, 1));
        edges.refusedState("a random day behind 100", Stands::full, y -> y.addRandomRain(0, 1, 0, 1));
        edges.refusedIndex("rain(100)", Stands::full, y -> y.rain(100));
        edges.refusedArgument("a rain of -1", Stands::midst, y -> y.addRain(-1, 1));
        edges.refusedArgument("a rain of 201", Stands::midst, y -> y.addRain(201, 1));
    }

    private void liter() {
        edges.sentence(0, "(One millimeter on one square meter is one liter.)");
        edges.due("inflow of 1 millimeter on 1 square meter", inflow(1, 100, 0, 50000, 1), 1);
        edges.due("inflow of no rain", inflow(1, 100, 0, 50000, 0), 0);
        edges.due("inflow of 200 millimeters on 250 square meters", inflow(250, 100, 0, 50000, 200), 50000);
    }

    private void undoableCallsSave() {
        edges.sentence(0, "Each successful call of a method whose description says \"undoable\" saves the state "
            + "from before the call, even if the call changes nothing;");
        notSaving("append(1)", x -> x.append(1));
        notSaving("clearText()", x -> x.clearText());
        notSaving("parse() with an error", RainReservoir::parse);
        notSaving("reads", x -> x.setting(0) + x.roof(0, 0) + x.user(0, 0) + x.rain(0) + x.day(0, 0) + x.sum(1));
        notSaving("accounts", x -> (long) x.reliability() + x.longestShortage() + x.digest());
        notSaving("questions", x -> x.shortDaysWith(100) + x.capacityFor(0) + x.bestRule() + x.sustainable()
            + x.gutterLoss(0));
    }

    /** A method that is not undoable leaves the saved states as they are. */
    private void notSaving(String told, Edges.Call call) {
        RainReservoir x = Stands.midst();
        x.append('?');
        long before = Stands.midst().setting(9);
        call.on(x);
        edges.due("undo() behind " + told, x.undo(), 3);
        edges.due("days done after undo() behind " + told, x.setting(9), before - 3);
    }

    private void undoableCallsThatChangeNothing() {
        Edges.Maker[] makers = {Stands::fresh, Stands::midst};
        for (Edges.Maker maker : makers) {
            edges.undoable("run(0)", maker, x -> x.run(0));
            edges.undoable("restart()", maker, x -> x.restart());
            edges.undoable("the same reservoir",
                maker, x -> x.setReservoir(x.setting(0), x.setting(1), x.setting(2)));
            edges.undoable("the same ways", maker, x -> x.setWays(x.setting(3), x.setting(4), x.setting(5)));
        }
        edges.undoable("parse() of nothing by a new object", Stands::fresh, x -> x.parse());
        edges.undoable("parse() of nothing", Stands::midstWithoutText, x -> x.parse());
        edges.undoable("the same demand", Stands::midst, x -> x.setDemand(1, x.user(1, 0)));
        edges.undoable("run(0) of a full object", Stands::full, x -> x.run(0));
    }

    /** An object with so many saved states, each with one day of rain more. */
    private static RainReservoir withRains(int days) {
        RainReservoir x = new RainReservoir();
        for (int i = 0; i < days; i++) {
            x.addRain(i, 1);
        }
        return x;
    }

    private void fourStates() {
        edges.sentence(0, "at most 4 states are saved, and the oldest is dropped first.");
        int[] undos = {0, 1, 2, 3, 4, 4, 4, 4, 4, 4};
        for (int calls = 0; calls < undos.length; calls++) {
            RainReservoir x = withRains(calls);
            for (int i = 1; i <= undos[calls]; i++) {
                edges.due("undo() behind " + calls + " calls", x.undo(), undos[calls] - i);
                edges.due("days behind " + calls + " calls", x.setting(8), calls - i);
            }
            int made = calls;
            edges.refusedState("undo() behind " + calls + " calls that are undone", () -> undone(made),
                y -> y.undo());
        }
    }

    private static RainReservoir undone(int calls) {
        RainReservoir x = withRains(calls);
        for (int i = 0; i < Math.min(calls, 4); i++) {
            x.undo();
        }
        return x;
    }

    private void textIsNotSaved() {
        edges.sentence(0, "The saved state contains everything except the rain text.");
        RainReservoir x = new RainReservoir();
        Rows.append(x, "5;");
        x.parse();
        x.append('6');
        x.undo();
        edges.due("clearText() behind undo()", x.clearText(), 3);
        x.parse();
        Rows.append(x, "78");
        x.undo();
        edges.due("append() behind undo()", x.append(';'), 3);
        edges.due("parse() behind undo()", x.parse(), 1);
        edges.due("rain(0)", x.rain(0), 78);
        x.clearText();
        x.undo();
        edges.due("clearText() of a cleared text behind undo()", x.clearText(), 0);
        RainReservoir y = Stands.full();
        y.undo();
        edges.due("clearText() of a full text behind undo()", y.clearText(), 120);
        everythingElseIsSaved();
    }

    private void everythingElseIsSaved() {
        edges.undoable("a roof more", Stands::midst, x -> x.addRoof(500, 100, 999, 50000));
        edges.undoable("a user more", Stands::midst, x -> x.addUser(9999, 9));
        edges.undoable("restart() of a full object", Stands::full, x -> x.restart());
        edges.undoable("run(30) of a full object", Stands::full, x -> x.run(30));
        edges.undoable("another reservoir of a full object", Stands::full, x -> x.setReservoir(100, 7, 8));
        edges.undoable("other ways of a full object", Stands::full, x -> x.setWays(1, 2, 3));
    }

    /** The tests of each promise look at the calls of that method; here some follow one another. */
    private void refusedCallsChangeNothing() {
        edges.sentence(0, "A call that throws an exception changes nothing.");
        edges.refusedState("undo() of a new object, behind other refused calls", Stands::fresh, x -> {
            refusedCalls(x);
            return x.undo();
        });
        edges.refusedState("a seventh roof, behind other refused calls", Stands::full, x -> {
            refusedCalls(x);
            return x.addRoof(1, 1, 0, 1);
        });
        edges.refusedArgument("sum(0), behind other refused calls", Stands::midst, x -> {
            refusedCalls(x);
            return x.sum(0);
        });
    }

    private static void refusedCalls(RainReservoir x) {
        Edges.Call[] calls = {y -> y.addRoof(1, 1, 0, 0), y -> y.addUser(1, 0), y -> y.setDemand(5, 1),
            y -> y.setReservoir(100, 0, 101), y -> y.setWays(0, 3, 4), y -> y.addRain(1, 101),
            y -> y.addRandomRain(1, 1, 1, 201), y -> y.run(101), y -> y.append(128),
            y -> y.setting(12), y -> y.roof(6, 0), y -> y.user(5, 0), y -> y.rain(100), y -> y.day(100, 0),
            y -> y.shortDaysWith(99), y -> y.capacityFor(101), y -> y.gutterLoss(6)};
        int refused = 0;
        for (Edges.Call call : calls) {
            try {
                call.on(x);
            } catch (IllegalArgumentException | IndexOutOfBoundsException e) {
                refused++;
            }
        }
        if (refused != calls.length) {
            throw new UnsupportedOperationException("a wrong call was taken");
        }
    }

    private void orderOfExceptions() {
        edges.sentence(0, "If several exceptions apply, the one that is listed first is thrown.");
        edges.refusedArgument("a wrong seventh roof", Stands::full, x -> x.addRoof(501, 1, 0, 1));
        edges.refusedArgument("a seventh roof with a wrong gutter", Stands::full, x -> x.addRoof(1, 1, 0, 50001));
        edges.refusedArgument("a wrong sixth user", Stands::full, x -> x.addUser(10000, 1));
        edges.refusedArgument("a sixth user with a wrong weight", Stands::full, x -> x.addUser(1, 10));
        edges.refusedIndex("a wrong demand of no user", Stands::full, x -> x.setDemand(5, 10000));
        edges.refusedIndex("a wrong question about no roof", Stands::full, x -> x.roof(6, 5));
        edges.refusedIndex("a wrong question about no user", Stands::full, x -> x.user(5, 4));
        edges.refusedArgument("a wrong rain behind 100 days", Stands::full, x -> x.addRain(201, 1));
        edges.refusedArgument("101 days behind 100", Stands::full, x -> x.addRain(1, 101));
        edges.refusedArgument("wrong random days behind 100", Stands::full, x -> x.addRandomRain(0, 1, 0, 201));
        edges.refusedArgument("more than 100 days to do", Stands::full, x -> x.run(101));
        edges.refusedArgument("-1 days to do without rains", Stands::fresh, x -> x.run(-1));
        edges.refusedIndex("a wrong question about no day", Stands::full, x -> x.day(70, 10));
        edges.refusedArgument("a wrong byte for a full text", Stands::full, x -> x.append(128));
    }

    private void none() {
        edges.sentence(0, "`NONE = -1`: There is no such thing.");
        edges.due("NONE", RainReservoir.NONE, -1);
        RainReservoir x = new RainReservoir();
        x.addUser(20, 1);
        x.addRain(0, 1);
        edges.due("capacityFor(0) without water", x.capacityFor(0), RainReservoir.NONE);
        edges.due("sustainable() without water", x.sustainable(), RainReservoir.NONE);
    }
}
