import java.nio.file.Files;
import java.nio.file.Path;
import java.util.ArrayList;
import java.util.LinkedHashSet;
import java.util.List;
import java.util.Set;

/**
 * The document's sentences, split at full stops and semicolons, and which of them a test of
 * boundary cases has named. The head counts as promise 0.
 */
final class Sentences {
    private static final int PROMISES = 28;

    /** Those that name no boundary case: headings, and sentences that only lead to the next one. */
    private static final Set<String> WITHOUT_BOUNDARY = Set.of(
        "A simulator of a rainwater reservoir: roofs with areas and gutters, first flush diverters, an "
            + "overflow weir, evaporation, a pump floor, users who share in droughts by one of four rules, "
            + "mains water that tops up, day by day accounts, and what-if questions about capacities and demands;",
        "rains are also read from a text.", "what later calls answer is free.",
        "Roofs.", "Users.", "Reservoir.", "Rains.", "A day.", "Rain text.", "Undo.", "Exceptions.",
        "A day with a rain r goes like this:", "The constants:",
        "The constructor and the methods follow, a promise each: the signature, then what it does.");

    private final List<Set<String>> all = new ArrayList<>();
    private final List<Set<String>> named = new ArrayList<>();

    Sentences(Path document) throws Exception {
        for (int promise = 0; promise <= PROMISES; promise++) {
            all.add(new LinkedHashSet<>());
            named.add(new LinkedHashSet<>());
        }
        read(Files.readAllLines(document));
    }

    private void read(List<String> lines) {
        int promise = 0;
        boolean code = false;
        for (String line : lines) {
            if (line.startsWith("```")) {
                code = !code;
            } else if (line.startsWith("## Promise ")) {
                promise = Integer.parseInt(line.substring(11, line.indexOf(':')));
            } else if (line.startsWith("## Not promised")) {
                return;
            } else if (!code && isProse(line)) {
                split(promise, line);
            }
        }
    }

    /** A line that is code from end to end is a signature. */
    private static boolean isProse(String line) {
        boolean code = line.startsWith("`") && !line.contains(": ");
        return !line.isBlank() && !code && !line.startsWith("#") && !line.startsWith("----");
    }

    private void split(int promise, String line) {
        String withoutNumber = line.strip().replaceFirst("^(- |\\d\\. |\\d )", "");
        for (String sentence : withoutNumber.split("(?<=[.;]) (?=\\S)|(?<=\\.\\)) ")) {
            if (!WITHOUT_BOUNDARY.contains(sentence)) {
                all.get(promise).add(sentence);
            }
        }
    }

    /** Tells whether there is such a sentence. */
    boolean name(int promise, String sentence) {
        named.get(promise).add(sentence);
        return all.get(promise).contains(sentence);
    }

    List<String> withoutTest() {
        List<String> left = new ArrayList<>();
        for (int promise = 0; promise <= PROMISES; promise++) {
            for (String sentence : all.get(promise)) {
                if (!named.get(promise).contains(sentence)) {
                    left.add(title(promise) + ", \"" + sentence + "\"");
                }
            }
        }
        return left;
    }

    static String title(int promise) {
        return promise == 0 ? "the head" : "promise " + promise;
    }
}
