import java.nio.file.Files;
import java.nio.file.Path;
import java.util.ArrayList;
import java.util.List;
import java.util.regex.Matcher;
import java.util.regex.Pattern;

/**
 * Makes the program Garden of the code that README.md shows; it looks at each answer that README.md
 * tells. The arguments are the paths of README.md and of the program that is to be written.
 */
public final class ReadmeProgram {
    private static final Pattern ANSWERED = Pattern.compile("(\\w+ (\\w+) = )?(.+);\\s+// = ([^\\s,]+)(,.*)?");
    private static final Pattern THROWN = Pattern.compile("(.+);\\s+// throws (\\w+)(,.*)?");
    /** Calls in a loop are indented, and need not tell what each of them answers. */
    private static final Pattern CALL = Pattern.compile("(\\w+ \\w+ = )?[a-z]\\w*\\.\\w+\\(.*");

    private static final String BEGIN = """
        public final class Garden {
            private static int right;
            private static int wrong;

            private static void due(String line, long got, long want) {
                count(line, got == want, "answered " + got);
            }

            private static void due(String line, double got, double want) {
                count(line, got == want, "answered " + got);
            }

            private static void dueThrown(String line, Class<?> got, Class<?> want) {
                count(line, got == want, "threw " + got);
            }

            private static void count(String line, boolean holds, String told) {
                if (holds) {
                    right++;
                } else {
                    wrong++;
                    System.out.println("README.md: " + line + " - but it " + told);
                }
            }

            public static void main(String[] args) {
                Class<?> thrown;
        """;

    private static final String END = """
                System.out.println(right + " answers of README.md hold, " + wrong + " do not");
                if (wrong > 0 || right == 0) {
                    System.exit(1);
                }
            }

            private static void asItStands() {
        """;

    private ReadmeProgram() {
    }

    public static void main(String[] args) throws Exception {
        StringBuilder program = new StringBuilder(BEGIN);
        for (String line : shown(Path.of(args[0]))) {
            program.append("        ").append(checked(line)).append('\n');
        }
        program.append(END);
        // What main looks at are parts of the lines, so the lines themselves are compiled, too.
        for (String line : shown(Path.of(args[0]))) {
            program.append("        ").append(line).append('\n');
        }
        program.append("    }\n}\n");
        Files.createDirectories(Path.of(args[1]).getParent());
        Files.writeString(Path.of(args[1]), program);
    }

    /** The lines of code, of all pieces one after the other. */
    static List<String> shown(Path readme) throws Exception {
        List<String> lines = new ArrayList<>();
        boolean code = false;
        for (String line : Files.readAllLines(readme)) {
            if (line.startsWith("```")) {
                code = line.equals("```java");
            } else if (code) {
                lines.add(line);
            }
        }
        return lines;
    }

    static boolean tellsAnswer(String line) {
        return ANSWERED.matcher(line).matches() || THROWN.matcher(line).matches();
    }

    /** The line with a look at the answer that it tells. */
    static String checked(String line) {
        Matcher thrown = THROWN.matcher(line);
        if (thrown.matches()) {
            return "thrown = null; try { " + thrown.group(1) + "; } catch (RuntimeException e) { thrown = e.getClass(); }"
                + " dueThrown(" + quoted(line) + ", thrown, " + thrown.group(2) + ".class);";
        }
        Matcher answered = ANSWERED.matcher(line);
        if (answered.matches()) {
            String named = answered.group(1) == null ? "" : answered.group(1) + answered.group(3) + "; ";
            String got = answered.group(1) == null ? answered.group(3) : answered.group(2);
            return named + "due(" + quoted(line) + ", " + got + ", " + answered.group(4) + ");";
        }
        if (CALL.matcher(line).matches()) {
            throw new IllegalArgumentException("README.md tells no answer: " + line);
        }
        return line;
    }

    private static String quoted(String line) {
        return '"' + line.replace("\\", "\\\\").replace("\"", "\\\"") + '"';
    }
}
