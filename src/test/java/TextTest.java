/** Promises 24 to 26: the rain text. */
final class TextTest {
    private final Checks checks;

    TextTest(Checks checks) {
        this.checks = checks;
    }

    void run() {
        append();
        clearText();
        parseGoodTexts();
        parseWrongTexts();
        parseTooManyDays();
        parseIsUndoable();
        parseLongTexts();
    }

    private void append() {
        checks.begin("promise 24");
        RainReservoir x = new RainReservoir();
        checks.dueArgument(x, "append(-1)", () -> x.append(-1));
        checks.dueArgument(x, "append(128)", () -> x.append(128));
        checks.due("append(0)", x.append(0), 1);
        checks.due("append(127)", x.append(127), 2);
        for (int length = 3; length <= 120; length++) {
            checks.due("append", x.append('1'), length);
        }
        checks.dueState(x, "append to 120 bytes", () -> x.append('1'));
        checks.dueArgument(x, "append of a wrong one to 120 bytes", () -> x.append(128));
        checks.dueState(x, "undo(), as append is not undoable", () -> x.undo());
    }

    private void clearText() {
        checks.begin("promise 25");
        RainReservoir x = new RainReservoir();
        checks.due("clearText()", x.clearText(), 0);
        Rows.append(x, "5;?");
        checks.due("clearText()", x.clearText(), 3);
        checks.due("clearText()", x.clearText(), 0);
        checks.dueState(x, "undo(), as clearText is not undoable", () -> x.undo());
        checks.due("append after it", x.append('7'), 1);
        checks.due("append after it", x.append(';'), 2);
        checks.due("parse()", x.parse(), 1);
        checks.due("rain(0)", x.rain(0), 7);
    }

    private void parseGood(String text, long... rains) {
        RainReservoir x = new RainReservoir();
        Rows.append(x, text);
        checks.due("parse() of " + text, x.parse(), rains.length);
        checks.dueRow("rains of " + text, Rows.rains(x), rains);
    }

    private void parseGoodTexts() {
        checks.begin("promise 26");
        parseGood("");
        parseGood("0;", 0);
        parseGood("200;", 200);
        parseGood("000;007;", 0, 7);
        parseGood("5x1;", 5);
        parseGood("5x03;6;", 5, 5, 5, 6);
        parseGood("12x2;0;199x1;", 12, 12, 0, 199);
    }

    private void parseWrong(String text, int position) {
        RainReservoir x = new RainReservoir();
        x.addRain(3, 1);
        Rows.append(x, text);
        long before = x.digest();
        checks.due("parse() of " + text, x.parse(), -10 - position);
        checks.due("digest after " + text, x.digest(), before);
        checks.due("length of " + text, x.clearText(), text.length());
    }

    private void parseWrongTexts() {
        parseWrong(";", 0);
        parseWrong("x", 0);
        parseWrong("x5;", 0);
        parseWrong(" 5;", 0);
        parseWrong("-1;", 0);
        parseWrong("5 ;", 1);
        parseWrong("5,", 1);
        parseWrong("5X2;", 1);
        parseWrong("5", 1);
        parseWrong("123", 3);
        parseWrong("5;6", 3);
        parseWrong("5;;", 2);
        parseWrong("5; 6;", 2);
        parseWrong("1234", 3);
        parseWrong("9999;", 3);
        parseWrong("0201;", 3);
        parseWrong("201;", 0);
        parseWrong("201", 0);
        parseWrong("201x", 0);
        parseWrong("201?", 0);
        parseWrong("1;999,", 2);
        parseWrong("5x", 2);
        parseWrong("5x;", 2);
        parseWrong("5xx", 2);
        parseWrong("5x0;", 2);
        parseWrong("5x00;", 2);
        parseWrong("5x0", 2);
        parseWrong("5x0x", 2);
        parseWrong("5x000", 4);
        parseWrong("5x100;", 4);
        parseWrong("5x2", 3);
        parseWrong("5x12", 4);
        parseWrong("5x1x2;", 3);
        parseWrong("5x1/", 3);
        parseWrong("5x1:", 3);
        parseWrong("5;" + (char) 0, 2);
        parseWrong("5;" + (char) 127, 2);
    }

    private void parseTooManyDays() {
        RainReservoir x = new RainReservoir();
        Rows.append(x, "5x99;6;");
        checks.due("parse() of 100 days", x.parse(), 100);
        checks.due("parse() of as many", x.parse(), -10 - 4);
        x.clearText();
        checks.due("parse() of none", x.parse(), 100);
        Rows.append(x, "5;");
        checks.due("parse() of one more", x.parse(), -10 - 1);
        x.append('?');
        checks.due("parse() of one more and a wrong byte", x.parse(), -10 - 1);
        x.clearText();
        Rows.append(x, "5?");
        checks.due("parse() of a wrong byte for the semicolon", x.parse(), -10 - 1);
        RainReservoir y = new RainReservoir();
        y.addRain(1, 50);
        Rows.append(y, "2x30;3x21;");
        checks.due("parse() of 51 for 50", y.parse(), -10 - 9);
        y.undo();
        checks.due("parse() of 51", y.parse(), 51);
        checks.due("rain(30)", y.rain(30), 3);
    }

    private void parseIsUndoable() {
        RainReservoir x = new RainReservoir();
        x.addRain(9, 1);
        Rows.append(x, "5x2;");
        checks.due("parse()", x.parse(), 3);
        checks.due("parse() again", x.parse(), 5);
        checks.dueRow("rains", Rows.rains(x), 9, 5, 5, 5, 5);
        checks.due("undo()", x.undo(), 2);
        checks.dueRow("rains", Rows.rains(x), 9, 5, 5);
        checks.due("the text stays", x.clearText(), 4);
        checks.due("parse() of no items", x.parse(), 3);
        checks.due("undo() of it", x.undo(), 2);
        Rows.append(x, "5");
        checks.due("parse() of an error", x.parse(), -11);
        checks.due("undo() of what was before", x.undo(), 1);
        checks.dueRow("rains", Rows.rains(x), 9);
    }

    private void parseLongTexts() {
        StringBuilder items = new StringBuilder();
        for (int i = 0; i < 60; i++) {
            items.append("3;");
        }
        RainReservoir x = new RainReservoir();
        Rows.append(x, items.toString());
        checks.due("parse() of 60 items", x.parse(), 60);
        checks.due("parse() of 60 more", x.parse(), -10 - 81);
        x.clearText();
        Rows.append(x, items.toString().substring(0, 118) + "3x");
        checks.due("parse() that ends too early at 120", x.parse(), -10 - 81);
        x.restart();
        x.undo();
        x.undo();
        checks.due("parse() that ends too early at 120", x.parse(), -10 - 120);
    }
}
