/** Boundary cases of promises 3, 4 and 9: users. */
final class UserEdges {
    private final Edges edges;

    UserEdges(Edges edges) {
        this.edges = edges;
    }

    void run() {
        addUser();
        setDemand();
        user();
    }

    private void addUser() {
        newUser();
        addUserUndoable();
        demand();
        weight();
        numberOfTheUser();
        addUserOutOfRange();
        sixthUser();
    }

    private void newUser() {
        edges.sentence(3, "Adds a user.");
        RainReservoir x = Stands.midst();
        x.addUser(70, 6);
        edges.dueRow("the new user", Rows.user(x, 3), 70, 6, 0, 0);
    }

    private void addUserUndoable() {
        edges.sentence(3, "Undoable.");
        edges.undoable("the first user", Stands::fresh, y -> y.addUser(0, 1));
        edges.undoable("the fourth user", Stands::midst, y -> y.addUser(9999, 9));
    }

    private void demand() {
        edges.sentence(3, "`demand`: 0 to 9999");
        edges.range("demand", Stands::midst, 0, 9999, (y, v) -> y.user(y.addUser(v, 9), 0));
    }

    private void weight() {
        edges.sentence(3, "`weight`: 1 to 9");
        edges.range("weight", Stands::midst, 1, 9, (y, v) -> y.user(y.addUser(9999, v), 1));
    }

    private void numberOfTheUser() {
        edges.sentence(3, "Returns the number of the user.");
        RainReservoir z = new RainReservoir();
        for (int number = 0; number < 5; number++) {
            edges.due("addUser()", z.addUser(0, 1), number);
        }
        z.undo();
        edges.due("addUser() behind undo()", z.addUser(0, 1), 4);
    }

    private void addUserOutOfRange() {
        edges.sentence(3, "Throws `IllegalArgumentException` if an argument is out of range");
        int[][] wrong = {{-1, 1}, {10000, 1}, {0, 0}, {0, 10}, {10000, 10}};
        for (int[] w : wrong) {
            String told = "addUser() of " + w[0] + ", " + w[1];
            edges.refusedArgument(told, Stands::fresh, y -> y.addUser(w[0], w[1]));
            edges.refusedArgument(told + " behind 5", Stands::full, y -> y.addUser(w[0], w[1]));
        }
    }

    private void sixthUser() {
        edges.sentence(3, "Throws `IllegalStateException` if there are 5 users");
        edges.due("the fifth user", fiveUsers().setting(7), 5);
        edges.refusedState("the sixth user", UserEdges::fiveUsers, y -> y.addUser(0, 1));
        edges.refusedState("the sixth user of a full object", Stands::full, y -> y.addUser(9999, 9));
    }

    private static RainReservoir fiveUsers() {
        RainReservoir x = Stands.midst();
        x.addUser(5, 5);
        x.addUser(6, 6);
        return x;
    }

    private void setDemand() {
        newDemand();
        setDemandUndoable();
        userOfTheDemand();
        setDemandRange();
        previousDemand();
        setDemandWithoutUser();
        setDemandOutOfRange();
    }

    private void newDemand() {
        edges.sentence(4, "Sets the demand of a user.");
        RainReservoir x = fiveUsers();
        x.setDemand(0, 11);
        x.setDemand(4, 12);
        edges.due("demand of user 0", x.user(0, 0), 11);
        edges.due("demand of user 3", x.user(3, 0), 5);
        edges.due("demand of user 4", x.user(4, 0), 12);
        edges.due("weight of user 4", x.user(4, 1), 6);
        edges.due("got in all of user 0", x.user(0, 3), Stands.midst().user(0, 3));
    }

    private void setDemandUndoable() {
        edges.sentence(4, "Undoable.");
        edges.undoable("setDemand()", Stands::midst, y -> y.setDemand(0, 9999));
        edges.undoable("setDemand() to the same", Stands::midst, y -> y.setDemand(0, 30));
        edges.undoable("setDemand() of a full object", Stands::full, y -> y.setDemand(4, 0));
    }

    private void userOfTheDemand() {
        edges.sentence(4, "`user`: number of a user");
        edges.due("setDemand() of the first", Stands.midst().setDemand(0, 1), 30);
        edges.due("setDemand() of the last", Stands.midst().setDemand(2, 1), 333);
        edges.due("setDemand() of the last of five", Stands.full().setDemand(4, 1), 9995);
        edges.refusedIndex("setDemand(3, 1)", Stands::midst, y -> y.setDemand(3, 1));
        edges.refusedIndex("setDemand(5, 1)", Stands::full, y -> y.setDemand(5, 1));
        edges.refusedIndex("setDemand(-1, 1)", Stands::midst, y -> y.setDemand(-1, 1));
    }

    private void setDemandRange() {
        edges.sentence(4, "`demand`: 0 to 9999");
        edges.range("setDemand()", Stands::midst, 0, 9999, (y, v) -> y.setDemand(1, v) + y.user(1, 0));
    }

    private void previousDemand() {
        edges.sentence(4, "Returns the previous demand.");
        RainReservoir z = Stands.midst();
        edges.due("setDemand() from 0", z.setDemand(1, 9999), 0);
        edges.due("setDemand() from 9999", z.setDemand(1, 9999), 9999);
        edges.due("setDemand() from 9999 again", z.setDemand(1, 0), 9999);
    }

    private void setDemandWithoutUser() {
        edges.sentence(4, "Throws `IndexOutOfBoundsException` if there is no such user");
        edges.outsideIndex("setDemand()", Stands::fresh, 0, (y, v) -> y.setDemand(v, 1));
        edges.outsideIndex("setDemand()", Stands::midst, 3, (y, v) -> y.setDemand(v, 1));
        edges.outsideIndex("setDemand()", Stands::full, 5, (y, v) -> y.setDemand(v, -1));
        edges.refusedIndex("a user that is undone", UserEdges::userUndone, y -> y.setDemand(3, 1));
    }

    private void setDemandOutOfRange() {
        edges.sentence(4, "Throws `IllegalArgumentException` if demand is out of range");
        edges.outside("setDemand(0, ..)", Stands::midst, 0, 9999, (y, v) -> y.setDemand(0, v));
        edges.outside("setDemand(4, ..)", Stands::full, 0, 9999, (y, v) -> y.setDemand(4, v));
    }

    private static RainReservoir userUndone() {
        RainReservoir x = Stands.midst();
        x.addUser(5, 5);
        x.undo();
        return x;
    }

    private void user() {
        userReads();
        userNumber();
        latestDay();
        leastAndGreatestUser();
        noSuchUser();
        userOutOfRange();
    }

    private void userReads() {
        edges.sentence(9, "Returns something about a user.");
        edges.unchanged("user()", Stands::midst, y -> y.user(0, 0) + y.user(2, 3));
    }

    private void userNumber() {
        edges.sentence(9, "`user`: number of a user");
        edges.due("demand of the first", Stands.midst().user(0, 0), 30);
        edges.due("demand of the last", Stands.midst().user(2, 0), 333);
        edges.due("demand of the last of five", Stands.full().user(4, 0), 9995);
        edges.refusedIndex("user(3, 0) of three", Stands::midst, y -> y.user(3, 0));
        edges.refusedIndex("user(-1, 0)", Stands::midst, y -> y.user(-1, 0));
    }

    private void leastAndGreatestUser() {
        edges.sentence(9, "Returns that value.");
        RainReservoir x = Stands.roof(100);
        x.addUser(0, 1);
        x.addUser(9999, 9);
        x.addRain(100, 100);
        x.run(100);
        edges.dueRow("user of nothing", Rows.user(x, 0), 0, 1, 0, 0);
        edges.dueRow("user of most", Rows.user(x, 1), 9999, 9, 9999, 999900);
    }

    private void noSuchUser() {
        edges.sentence(9, "Throws `IndexOutOfBoundsException` if there is no such user");
        edges.outsideIndex("user()", Stands::fresh, 0, (y, v) -> y.user(v, 0));
        edges.outsideIndex("user()", Stands::midst, 3, (y, v) -> y.user(v, 3));
        edges.outsideIndex("user()", Stands::full, 5, (y, v) -> y.user(v, 4));
    }

    private void userOutOfRange() {
        edges.sentence(9, "Throws `IllegalArgumentException` if what is out of range");
        edges.outside("user(0, ..)", Stands::midst, 0, 3, (y, v) -> y.user(0, v));
        edges.outside("user(4, ..)", Stands::full, 0, 3, (y, v) -> y.user(4, v));
    }

    private void latestDay() {
        edges.sentence(9, "`what`: 0 its demand, 1 its weight, 2 what it got on the latest day done (0 if it was "
            + "added behind it, or no day is done), 3 what it has got in all");
        RainReservoir x = Rows.literARain();
        x.addUser(30, 2);
        x.addRain(50, 1);
        x.addRain(0, 3);
        edges.dueRow("no day is done", Rows.user(x, 0), 30, 2, 0, 0);
        x.run(1);
        edges.dueRow("a day is done", Rows.user(x, 0), 30, 2, 30, 30);
        x.addUser(5, 1);
        edges.dueRow("added behind the day", Rows.user(x, 1), 5, 1, 0, 0);
        x.run(0);
        edges.dueRow("no day more", Rows.user(x, 0), 30, 2, 30, 30);
        x.setDemand(0, 7);
        edges.dueRow("the demand of the days to come", Rows.user(x, 0), 7, 2, 30, 30);
        x.run(1);
        edges.dueRow("another day", Rows.user(x, 0), 7, 2, 7, 37);
        edges.dueRow("added before that day", Rows.user(x, 1), 5, 1, 5, 5);
        x.run(2);
        // 8 liters for 12: 4 and 3, and the one that is left goes to the first; then there are none.
        edges.dueRow("nothing on the latest day", Rows.user(x, 0), 7, 2, 0, 42);
        edges.dueRow("nothing on the latest day", Rows.user(x, 1), 5, 1, 0, 8);
        x.undo();
        edges.dueRow("the latest day behind undo()", Rows.user(x, 0), 7, 2, 7, 37);
        x.restart();
        edges.dueRow("no day is done behind restart()", Rows.user(x, 0), 7, 2, 0, 0);
        edges.refusedArgument("user(0, -1)", Stands::midst, y -> y.user(0, -1));
        edges.refusedArgument("user(0, 4)", Stands::midst, y -> y.user(0, 4));
    }
}
