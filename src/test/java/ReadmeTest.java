import java.nio.file.Files;
import java.nio.file.Path;
import java.util.ArrayList;
import java.util.LinkedHashMap;
import java.util.List;
import java.util.Map;
import java.util.regex.Matcher;
import java.util.regex.Pattern;

/**
 * README.md: its table of methods says what the document says, and its code, which ReadmeProgram
 * turns into a program of its own, shows each method with an answer.
 */
final class ReadmeTest {
    private static final Pattern PROMISE = Pattern.compile("## Promise \\d+: (\\w+)");
    private static final Pattern SIGNATURE = Pattern.compile("`\\w+ \\w+\\((.*)\\)( throws (.+))?`");
    private static final Pattern RANGE = Pattern.compile("- (`\\w+`): (?:.*, )?(\\d+ to \\w+).*");

    /** What the document says of a method, or a row of README.md's table. */
    private static final class Method {
        String call = "";
        String thrown = "";
        boolean undoable;
        final List<String> ranges = new ArrayList<>();
    }

    private final Checks checks;
    private final Path readme;
    private final Path document;

    ReadmeTest(Checks checks, String readme, String document) {
        this.checks = checks;
        this.readme = Path.of(readme);
        this.document = Path.of(document);
    }

    void run() throws Exception {
        checks.begin("README.md");
        Map<String, Method> methods = methods();
        checks.due("methods of the document", methods.size(), 27);
        table(methods);
        code(methods);
        checked();
    }

    private Map<String, Method> methods() throws Exception {
        Map<String, Method> found = new LinkedHashMap<>();
        String name = "";
        for (String line : Files.readAllLines(document)) {
            Matcher promise = PROMISE.matcher(line);
            Matcher signature = SIGNATURE.matcher(line);
            if (promise.matches()) {
                name = promise.group(1);
            } else if (signature.matches()) {
                found.put(name, new Method());
                found.get(name).call = "`" + name + "(" + signature.group(1).replace("int ", "") + ")`";
                found.get(name).thrown = shortNames(signature.group(3));
            } else if (found.containsKey(name)) {
                add(found.get(name), line);
            }
        }
        return found;
    }

    private static String shortNames(String exceptions) {
        return exceptions == null ? "" : exceptions.replace("IllegalArgumentException", "argument")
            .replace("IllegalStateException", "state").replace("IndexOutOfBoundsException", "index");
    }

    private static void add(Method method, String line) {
        method.undoable |= line.contains("Undoable");
        Matcher range = RANGE.matcher(line);
        if (range.matches()) {
            method.ranges.add(range.group(1) + " " + range.group(2));
        }
    }

    /** The cells are the call, its arguments, what it answers, what it throws, and whether it is undoable. */
    private void table(Map<String, Method> methods) throws Exception {
        Map<String, String[]> rows = new LinkedHashMap<>();
        for (String line : Files.readAllLines(readme)) {
            if (line.matches("\\| `\\w+\\(.*")) {
                String[] cells = line.substring(1, line.length() - 1).split("\\|", -1);
                rows.put(cells[0].strip(), cells);
            }
        }
        checks.due("rows of the table", rows.size(), methods.size());
        for (Method method : methods.values()) {
            String[] cells = rows.get(method.call);
            checks.hold(cells != null && cells.length == 5, "no row of five cells is for " + method.call);
            if (cells != null && cells.length == 5) {
                row(method, cells);
            }
        }
    }

    private void row(Method method, String[] cells) {
        for (String range : method.ranges) {
            checks.hold(cells[1].contains(range), "the row of " + method.call + " does not say " + range);
        }
        checks.hold(!cells[2].isBlank(), "the row of " + method.call + " does not say what is answered");
        checks.hold(cells[3].strip().equals(method.thrown), method.call + " throws " + method.thrown);
        checks.hold(cells[4].strip().equals(method.undoable ? "yes" : ""), method.call + " is undoable, or not");
    }

    private void code(Map<String, Method> methods) throws Exception {
        List<String> shown = ReadmeProgram.shown(readme);
        for (String name : methods.keySet()) {
            boolean answered = false;
            for (String line : shown) {
                answered |= line.contains("." + name + "(") && ReadmeProgram.tellsAnswer(line);
            }
            checks.hold(answered, "no line of code shows an answer of " + name);
        }
    }

    /** A line whose answer were not looked at would be right whatever it says. */
    private void checked() {
        dueLine("x.sum(1);  // = 7", "due(\"x.sum(1);  // = 7\", x.sum(1), 7);");
        dueLine("x.sum(1);  // = 7, liters", "due(\"x.sum(1);  // = 7, liters\", x.sum(1), 7);");
        dueLine("long n = x.sum(1);  // = 7", "long n = x.sum(1); due(\"long n = x.sum(1);  // = 7\", n, 7);");
        dueLine("x.undo();  // throws IllegalStateException, as",
            "thrown = null; try { x.undo(); } catch (RuntimeException e) { thrown = e.getClass(); }"
                + " dueThrown(\"x.undo();  // throws IllegalStateException, as\", thrown, IllegalStateException.class);");
        dueLine("    x.append(sign);", "    x.append(sign);");
        dueRefused("x.sum(1);");
        dueRefused("x.sum(1);  // 7");
        dueRefused("long n = x.sum(1);");
    }

    private void dueLine(String line, String want) {
        String got = ReadmeProgram.checked(line);
        checks.hold(got.equals(want), line + " becomes " + got);
    }

    private void dueRefused(String line) {
        boolean refused = false;
        try {
            ReadmeProgram.checked(line);
        } catch (IllegalArgumentException e) {
            refused = true;
        }
        checks.hold(refused, line + " tells no answer, but is taken");
    }
}
