/** Boundary cases of promises 2 and 8: roofs. */
final class RoofEdges {
    private final Edges edges;

    RoofEdges(Edges edges) {
        this.edges = edges;
    }

    void run() {
        addRoof();
        roof();
    }

    private void addRoof() {
        newRoof();
        addRoofUndoable();
        area();
        share();
        flush();
        gutter();
        addRoofAnswers();
    }

    private void newRoof() {
        edges.sentence(2, "Adds a roof with an empty diverter.");
        RainReservoir x = Stands.midst();
        x.addRoof(9, 8, 7, 6);
        edges.dueRow("the new roof", Rows.roof(x, 2), 9, 8, 7, 6, 0);
        RainReservoir again = Stands.roof(1);
        again.addRoof(1, 100, 50, 50000);
        again.addRain(200, 1);
        again.run(1);
        again.undo();
        again.undo();
        again.undo();
        again.addRoof(1, 100, 50, 50000);
        edges.due("water where an undone roof had some", again.roof(1, 4), 0);
    }

    private void addRoofUndoable() {
        edges.sentence(2, "Undoable.");
        edges.undoable("the first roof", Stands::fresh, y -> y.addRoof(1, 1, 0, 1));
        edges.undoable("the third roof", Stands::midst, y -> y.addRoof(500, 100, 999, 50000));
    }

    private void area() {
        edges.sentence(2, "`area`: 1 to 500");
        edges.range("area", Stands::midst, 1, 500, (y, v) -> y.roof(y.addRoof(v, 100, 0, 50000), 0));
    }

    private void share() {
        edges.sentence(2, "`share`: 1 to 100, its yield");
        edges.range("share", Stands::midst, 1, 100, (y, v) -> y.roof(y.addRoof(500, v, 0, 50000), 1));
    }

    private void flush() {
        edges.sentence(2, "`flush`: 0 to 999");
        edges.range("flush", Stands::midst, 0, 999, (y, v) -> y.roof(y.addRoof(500, 100, v, 50000), 2));
    }

    private void gutter() {
        edges.sentence(2, "`gutter`: 1 to 50000");
        edges.range("gutter", Stands::midst, 1, 50000, (y, v) -> y.roof(y.addRoof(500, 100, 0, v), 3));
    }

    private void addRoofAnswers() {
        numberOfTheRoof();
        addRoofOutOfRange();
        seventhRoof();
    }

    private void numberOfTheRoof() {
        edges.sentence(2, "Returns the number of the roof.");
        RainReservoir x = new RainReservoir();
        for (int number = 0; number < 6; number++) {
            edges.due("addRoof()", x.addRoof(1, 1, 0, 1), number);
        }
        x.undo();
        edges.due("addRoof() behind undo()", x.addRoof(2, 1, 0, 1), 5);
    }

    private void addRoofOutOfRange() {
        edges.sentence(2, "Throws `IllegalArgumentException` if an argument is out of range");
        int[][] wrong = {{0, 1, 0, 1}, {501, 1, 0, 1}, {1, 0, 0, 1}, {1, 101, 0, 1}, {1, 1, -1, 1},
            {1, 1, 1000, 1}, {1, 1, 0, 0}, {1, 1, 0, 50001}, {501, 101, 1000, 50001}};
        for (int[] w : wrong) {
            String told = "addRoof() of " + w[0] + ", " + w[1] + ", " + w[2] + ", " + w[3];
            edges.refusedArgument(told, Stands::fresh, y -> y.addRoof(w[0], w[1], w[2], w[3]));
            edges.refusedArgument(told + " behind 6", Stands::full, y -> y.addRoof(w[0], w[1], w[2], w[3]));
        }
    }

    private void seventhRoof() {
        edges.sentence(2, "Throws `IllegalStateException` if there are 6 roofs");
        edges.due("the sixth roof", sixRoofs().setting(6), 6);
        edges.refusedState("the seventh roof", RoofEdges::sixRoofs, y -> y.addRoof(1, 1, 0, 1));
        edges.refusedState("the seventh roof of a full object", Stands::full, y -> y.addRoof(500, 100, 999, 50000));
    }

    private static RainReservoir sixRoofs() {
        RainReservoir x = Stands.midst();
        for (int i = 2; i < 6; i++) {
            x.addRoof(i, 100, 1, 100);
        }
        return x;
    }

    private void roof() {
        roofReads();
        roofNumber();
        roofValues();
        leastAndGreatestRoof();
        noSuchRoof();
        roofOutOfRange();
    }

    private void roofReads() {
        edges.sentence(8, "Returns something about a roof.");
        edges.unchanged("roof()", Stands::midst, y -> y.roof(0, 0) + y.roof(1, 4));
    }

    private void roofNumber() {
        edges.sentence(8, "`roof`: number of a roof");
        edges.due("area of the first", Stands.midst().roof(0, 0), 120);
        edges.due("area of the last", Stands.midst().roof(1, 0), 35);
        edges.due("area of the last of six", Stands.full().roof(5, 0), 495);
        edges.refusedIndex("roof(2, 0) of two", Stands::midst, y -> y.roof(2, 0));
        edges.refusedIndex("roof(-1, 0)", Stands::midst, y -> y.roof(-1, 0));
    }

    private void roofValues() {
        edges.sentence(8, "`what`: 0 its area, 1 its yield, 2 its flush, 3 its gutter, 4 the water in its diverter");
        RainReservoir x = new RainReservoir();
        x.addRoof(11, 50, 60, 70);
        x.addRain(10, 1);
        x.run(1);
        edges.dueRow("roof", Rows.roof(x, 0), 11, 50, 60, 70, 55);
        edges.refusedArgument("roof(0, -1)", Stands::midst, y -> y.roof(0, -1));
        edges.refusedArgument("roof(0, 5)", Stands::midst, y -> y.roof(0, 5));
    }

    private void leastAndGreatestRoof() {
        edges.sentence(8, "Returns that value.");
        edges.dueRow("the least roof", Rows.roof(roofOf(1, 1, 0, 1), 0), 1, 1, 0, 1, 0);
        edges.dueRow("the greatest roof", Rows.roof(roofOf(500, 100, 999, 50000), 0), 500, 100, 999, 50000, 999);
    }

    private void noSuchRoof() {
        edges.sentence(8, "Throws `IndexOutOfBoundsException` if there is no such roof");
        edges.outsideIndex("roof()", Stands::fresh, 0, (y, v) -> y.roof(v, 0));
        edges.outsideIndex("roof()", Stands::midst, 2, (y, v) -> y.roof(v, 4));
        edges.outsideIndex("roof()", Stands::full, 6, (y, v) -> y.roof(v, 5));
    }

    private void roofOutOfRange() {
        edges.sentence(8, "Throws `IllegalArgumentException` if what is out of range");
        edges.outside("roof(0, ..)", Stands::midst, 0, 4, (y, v) -> y.roof(0, v));
        edges.outside("roof(5, ..)", Stands::full, 0, 4, (y, v) -> y.roof(5, v));
    }

    /** The greatest rain has fallen on the roof. */
    private static RainReservoir roofOf(int area, int share, int flush, int gutter) {
        RainReservoir x = new RainReservoir();
        x.addRoof(area, share, flush, gutter);
        x.addRain(200, 1);
        x.run(1);
        return x;
    }
}
