/** Boundary cases of the rain text, and of promises 24 to 26. */
final class TextEdges {
    private static final int BYTES = 128;

    private final Edges edges;

    TextEdges(Edges edges) {
        this.edges = edges;
    }

    void run() {
        mostBytes();
        items();
        spaces();
        noItems();
        bytesThatCannotStand();
        textsThatEndTooEarly();
        digitsTooMany();
        numbersOutOfRange();
        tooManyDays();
        append();
        newLength();
        appendRange();
        appendOutOfRange();
        appendToAFullText();
        clearText();
        oldLength();
        parseBehind();
        textStays();
        parseUndoable();
        parseAnswer();
        parseError();
    }

    private static RainReservoir withText(String text) {
        RainReservoir x = new RainReservoir();
        Rows.append(x, text);
        return x;
    }

    private static RainReservoir withDays(int days, String text) {
        RainReservoir x = withText(text);
        if (days > 0) {
            x.addRain(3, days);
        }
        return x;
    }

    private void dueRains(String text, long... rains) {
        RainReservoir x = withText(text);
        edges.due("parse() of " + text, x.parse(), rains.length);
        edges.dueRow("rains of " + text, Rows.rains(x), rains);
    }

    /** The syntax error stands there, and nothing changes. */
    private void dueWrong(int days, String text, int position) {
        RainReservoir x = withDays(days, text);
        long before = x.digest();
        edges.due("parse() of " + text + " behind " + days + " days", x.parse(), -10 - position);
        edges.due("digest() behind parse() of " + text, x.digest(), before);
        edges.due("days of rain behind parse() of " + text, x.setting(8), days);
        edges.due("clearText() behind parse() of " + text, x.clearText(), text.length());
    }

    private void mostBytes() {
        edges.sentence(0, "The text has at most 120 bytes.");
        RainReservoir x = new RainReservoir();
        for (int length = 1; length <= 120; length++) {
            edges.due("append()", x.append(length % 2 == 1 ? '1' : ';'), length);
        }
        edges.due("parse() of 120 bytes", x.parse(), 60);
        edges.due("rain(59)", x.rain(59), 1);
        edges.refusedState("append() to 120 bytes", Stands::full, y -> y.append(';'));
        RainReservoir y = Stands.full();
        y.clearText();
        edges.due("append() to a full text that was cleared", y.append('7'), 1);
    }

    private void items() {
        edges.sentence(0, "It is a sequence of items, each terminated by a semicolon: a rain, one to three digits, "
            + "optionally followed by \"x\" and a number of days, one or two digits (1 without it).");
        dueRains("7;", 7);
        dueRains("77;", 77);
        dueRains("177;", 177);
        dueRains("000;", 0);
        dueRains("007;", 7);
        dueRains("7x1;", 7);
        dueRains("7x01;", 7);
        dueRains("177x2;", 177, 177);
        dueRains("0x02;200;", 0, 0, 200);
        edges.due("parse() of 99 days", withText("5x99;").parse(), 99);
        dueWrong(0, ";", 0);
        dueWrong(0, "1777;", 3);
        dueWrong(0, "7x;", 2);
        dueWrong(0, "7x001;", 4);
        dueWrong(0, "7", 1);
        dueWrong(0, "7;7", 3);
    }

    private void spaces() {
        edges.sentence(0, "There are no spaces;");
        dueWrong(0, " 7;", 0);
        dueWrong(0, "7 ;", 1);
        dueWrong(0, "7 x2;", 1);
        dueWrong(0, "7x 2;", 2);
        dueWrong(0, "7x2 ;", 3);
        dueWrong(0, "7; 8;", 2);
        dueWrong(0, "7; ", 2);
        dueWrong(0, " ", 0);
    }

    private void noItems() {
        edges.sentence(0, "there may be no items.");
        edges.due("parse() of nothing", new RainReservoir().parse(), 0);
        edges.due("parse() of nothing behind 100 days", withDays(100, "").parse(), 100);
        edges.due("parse() of nothing behind 1 day", withDays(1, "").parse(), 1);
        RainReservoir x = new RainReservoir();
        x.parse();
        edges.due("undo() of it", x.undo(), 0);
        dueWrong(0, ";;", 0);
    }

    /** Behind this beginning these bytes can stand, and each other byte is the error. */
    private void dueNext(String beginning, String good, int daysWithSemicolon) {
        for (int value = 0; value < BYTES; value++) {
            RainReservoir x = withText(beginning);
            x.append(value);
            int answer = x.parse();
            String told = "parse() of " + beginning + " and byte " + value;
            if (good.indexOf(value) < 0) {
                edges.due(told, answer, -10 - beginning.length());
            } else if (value == ';') {
                edges.due(told, answer, daysWithSemicolon);
            } else {
                edges.due(told, answer, -10 - beginning.length() - 1);
            }
        }
    }

    private void bytesThatCannotStand() {
        edges.sentence(0, "The syntax error position is the index of the first byte that cannot stand where it "
            + "stands (a digit too many, too), or the length of the text if the text ends too early.");
        dueNext("", "0123456789", 0);
        dueNext("1", "0123456789x;", 1);
        dueNext("200", "x;", 1);
        dueNext("5x", "123456789", 0);
        dueNext("5x1", "0123456789;", 1);
        dueNext("5x99", ";", 99);
        dueNext("5;", "0123456789", 0);
        dueNext("5x2;", "0123456789", 0);
        dueNext("7;5x2", "0123456789;", 3);
        dueWrong(0, "5;?;?", 2);
        dueWrong(0, "5x2x2;", 3);
        dueWrong(0, "5X2;", 1);
    }

    private void textsThatEndTooEarly() {
        dueWrong(0, "5", 1);
        dueWrong(0, "200", 3);
        dueWrong(0, "5x", 2);
        dueWrong(0, "5x9", 3);
        dueWrong(0, "5x99", 4);
        dueWrong(0, "5;5", 3);
        StringBuilder text = new StringBuilder();
        for (int i = 0; i < 59; i++) {
            text.append("1;");
        }
        dueWrong(0, text + "1x", 120);
        dueWrong(0, text + "12", 120);
        dueWrong(0, text + "1?", 119);
        dueWrong(0, text + ";", 118);
        edges.due("parse() of 118 bytes", withText(text.toString()).parse(), 59);
    }

    private void digitsTooMany() {
        dueWrong(0, "2000", 3);
        dueWrong(0, "2000;", 3);
        dueWrong(0, "9999;", 3);
        dueWrong(0, "0000;", 3);
        dueWrong(0, "0201;", 3);
        dueWrong(0, "5x000", 4);
        dueWrong(0, "5x001;", 4);
        dueWrong(0, "5x100;", 4);
        dueWrong(0, "1;2;3456", 7);
    }

    /** Whatever byte that is no digit follows the number, and if none does. */
    private void dueOutOfRange(String beginning, int position) {
        dueWrong(0, beginning, position);
        for (int value = 0; value < BYTES; value++) {
            if (value < '0' || value > '9') {
                dueWrong(0, beginning + (char) value, position);
            }
        }
    }

    private void numbersOutOfRange() {
        edges.sentence(0, "For a rain above 200, and for 0 days, it is the index of the first digit of the number, "
            + "found when a byte that is no digit, whichever it is, or the end of the text, follows it;");
        dueOutOfRange("201", 0);
        dueOutOfRange("999", 0);
        dueOutOfRange("7;201", 2);
        dueOutOfRange("5x0", 2);
        dueOutOfRange("5x00", 2);
        dueOutOfRange("7;123x0", 6);
        dueRains("200;199;", 200, 199);
        dueRains("0;000x1;", 0, 0);
        dueWrong(0, "201x0;", 0);
        dueWrong(0, "20", 2);
        // The rain is wrong before there could be too many days.
        dueWrong(100, "201;", 0);
        dueWrong(100, "5x0;", 2);
    }

    private void tooManyDays() {
        edges.sentence(0, "for days with which there would be more than 100 days (those that there are, and those "
            + "of all items so far), it is the index of the semicolon.");
        edges.due("parse() of the 100th day", withDays(99, "5;").parse(), 100);
        edges.due("parse() of 99 days behind 1", withDays(1, "5x99;").parse(), 100);
        edges.due("parse() of 100 days in two items", withText("5x99;5;").parse(), 100);
        edges.due("parse() of 100 days in three items", withDays(50, "1x30;2;3x19;").parse(), 100);
        dueWrong(100, "5;", 1);
        dueWrong(99, "5x2;", 3);
        dueWrong(2, "5x99;", 4);
        dueWrong(0, "5x99;5x2;", 8);
        dueWrong(0, "5x99;5;5;", 8);
        dueWrong(50, "1x30;2;3x20;", 11);
        dueWrong(100, "5;?", 1);
        // Without the semicolon it is another error.
        dueWrong(100, "5", 1);
        dueWrong(100, "5?", 1);
        dueWrong(2, "5x99", 4);
        dueWrong(2, "5x99x", 4);
        dueWrong(50, "5x5", 3);
    }

    private void append() {
        edges.sentence(24, "Appends a byte to the rain text.");
        edges.due("parse() of a new text", new RainReservoir().parse(), 0);
        edges.due("append() to no text", new RainReservoir().append('5'), 1);
        dueRains("5;6;", 5, 6);
        RainReservoir x = Stands.full();
        x.clearText();
        for (int i = 1; i < 120; i++) {
            x.append(';');
        }
        edges.due("append() to 119 bytes", x.append('?'), 120);
    }

    private void newLength() {
        edges.sentence(24, "Returns the new length of the text.");
        RainReservoir x = new RainReservoir();
        for (int length = 1; length <= 120; length++) {
            edges.due("append()", x.append(length), length);
        }
    }

    private void appendRange() {
        edges.sentence(24, "`value`: the byte, 0 to 127");
        edges.due("append(0)", new RainReservoir().append(0), 1);
        edges.due("append(127)", new RainReservoir().append(127), 1);
        edges.refusedArgument("append(-1)", Stands::midst, x -> x.append(-1));
        edges.refusedArgument("append(128)", Stands::midst, x -> x.append(128));
    }

    private void appendOutOfRange() {
        edges.sentence(24, "Throws `IllegalArgumentException` if value is out of range");
        edges.outside("append()", Stands::fresh, 0, 127, (x, value) -> x.append(value));
        edges.outside("append()", Stands::full, 0, 127, (x, value) -> x.append(value));
        // The lowest byte of these would be a digit and a semicolon.
        edges.refusedArgument("append() of a digit and 256", Stands::fresh, x -> x.append('5' + 256));
        edges.refusedArgument("append() of a semicolon less 256", Stands::fresh, x -> x.append(';' - 256));
    }

    private void appendToAFullText() {
        edges.sentence(24, "Throws `IllegalStateException` if the text has 120 bytes");
        edges.refusedState("append(0) to 120 bytes", Stands::full, x -> x.append(0));
        edges.refusedState("append(127) to 120 bytes", Stands::full, x -> x.append(127));
        edges.refusedState("append() again to 120 bytes", () -> refusedOnce(), x -> x.append('5'));
    }

    private static RainReservoir refusedOnce() {
        RainReservoir x = Stands.full();
        try {
            x.append('5');
        } catch (IllegalStateException e) {
            return x;
        }
        return new RainReservoir();
    }

    private void clearText() {
        edges.sentence(25, "Empties the rain text.");
        edges.unchanged("clearText() of no text", Stands::fresh, x -> x.clearText());
        RainReservoir x = Stands.full();
        x.clearText();
        edges.due("parse() of a cleared text", x.parse(), 100);
        edges.due("clearText() again", x.clearText(), 0);
        Rows.append(x, "7");
        x.clearText();
        Rows.append(x, ";");
        edges.due("parse(), nothing stays of the old text", x.parse(), -10);
    }

    private void oldLength() {
        edges.sentence(25, "Returns the length that it had.");
        edges.due("clearText() of no text", new RainReservoir().clearText(), 0);
        edges.due("clearText() of one byte", withText("?").clearText(), 1);
        edges.due("clearText() of 120 bytes", Stands.full().clearText(), 120);
    }

    private void parseBehind() {
        edges.sentence(26, "Adds the days of the rain text behind those that there are.");
        RainReservoir x = withText("5;0x2;");
        x.addRain(9, 1);
        x.run(1);
        edges.due("parse()", x.parse(), 4);
        edges.due("days done", x.setting(9), 1);
        edges.dueRow("rains", Rows.rains(x), 9, 5, 0, 0);
        RainReservoir y = withText("200;");
        y.addRain(9, 99);
        edges.due("parse() behind 99 days", y.parse(), 100);
        edges.due("rain(98)", y.rain(98), 9);
        edges.due("rain(99)", y.rain(99), 200);
        RainReservoir z = withText("0x50;200x50;");
        edges.due("parse() of 100 days", z.parse(), 100);
        edges.due("rain(49)", z.rain(49), 0);
        edges.due("rain(50)", z.rain(50), 200);
    }

    private void textStays() {
        edges.sentence(26, "The text stays as it is.");
        RainReservoir x = withText("5;6;");
        x.parse();
        edges.due("parse() again", x.parse(), 4);
        edges.dueRow("rains", Rows.rains(x), 5, 6, 5, 6);
        edges.due("append() behind parse()", x.append('?'), 5);
        edges.due("parse() of an error", x.parse(), -14);
        edges.due("parse() of an error again", x.parse(), -14);
        edges.due("clearText() behind an error", x.clearText(), 5);
        RainReservoir y = Stands.full();
        y.undo();
        y.parse();
        edges.due("clearText() of a full text", y.clearText(), 120);
    }

    private void parseUndoable() {
        edges.sentence(26, "Undoable, if there is no syntax error.");
        edges.undoable("parse()", Stands::midst, x -> x.parse());
        edges.undoable("parse() of a new object", () -> withText("5x99;6;"), x -> x.parse());
        edges.undoable("parse() of no items", Stands::midstWithoutText, x -> x.parse());
        edges.unchanged("parse() of too many days", Stands::full, x -> x.parse());
        edges.unchanged("parse() of a wrong byte", () -> withText("5;?"), x -> x.parse());
    }

    private void parseAnswer() {
        edges.sentence(26, "Returns the number of days of rain;");
        edges.due("parse() of no items and no days", new RainReservoir().parse(), 0);
        edges.due("parse() of one day", withText("0;").parse(), 1);
        edges.due("parse() of one day behind another", withDays(1, "0;").parse(), 2);
        edges.due("parse() to 100 days", withDays(40, "0x60;").parse(), 100);
    }

    private void parseError() {
        edges.sentence(26,
            "-10 minus the syntax error position if there is a syntax error (then nothing changes).");
        edges.due("parse() of an error at 0", withText("?").parse(), -10);
        edges.due("parse() of an error at 1", withText("5?").parse(), -11);
        edges.due("parse() of an error at 119", fullText('?').parse(), -129);
        edges.due("parse() of an error at 120", fullText('5').parse(), -130);
        edges.unchanged("parse() of an error at 119", () -> fullText('?'), x -> x.parse());
        edges.unchanged("parse() of an error at 120", () -> fullText('5'), x -> x.parse());
        edges.unchanged("parse() of good items before a wrong one", Stands::midst, x -> wrongItem(x));
    }

    /** 119 bytes of which the last is a digit, and this one. */
    private static RainReservoir fullText(int last) {
        RainReservoir x = new RainReservoir();
        for (int i = 0; i < 59; i++) {
            x.append('5');
            x.append(';');
        }
        x.append('5');
        x.append(last);
        return x;
    }

    /** Parses good items before a wrong one, and puts the text back that stands in the midst. */
    private static int wrongItem(RainReservoir x) {
        x.clearText();
        Rows.append(x, "1;2x3;4x0;");
        int answer = x.parse();
        x.clearText();
        Rows.append(x, "0;12x2;0x3;7;");
        return answer;
    }
}
