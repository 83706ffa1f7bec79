import java.io.IOException;
import java.nio.file.Files;
import java.nio.file.Path;
import java.util.ArrayList;
import java.util.List;
import java.util.Map;
import java.util.regex.Matcher;
import java.util.regex.Pattern;
import java.util.stream.Stream;

/** README.md: its examples answer as it tells, and its tables say what the document says. */
public final class ReadmeTest {
    private static final Path PAGE = Path.of("README.md");
    private static final int PROMISES = 29;
    private static final Map<String, Integer> CONSTANTS = Map.of(
        "UNKNOWN", PeriodSlots.UNKNOWN, "BAD", PeriodSlots.BAD, "LATE", PeriodSlots.LATE,
        "FULL", PeriodSlots.FULL, "NONE", PeriodSlots.NONE);
    private static final String NEW_OBJECT = "PeriodSlots slots = new PeriodSlots();";
    private static final Pattern TYPING = Pattern.compile("for \\(char letter : \"(.*)\"\\.toCharArray\\(\\)\\) \\{");
    private static final Pattern CALL = Pattern.compile("slots\\.(\\w+\\(.*\\));\\s+// (-?\\d+|[A-Z]+)\\b.*");

    private ReadmeTest() { }

    public static void main(String[] arguments) throws IOException {
        String page = Files.readString(PAGE);
        examples(page);
        methods(page);
        answers(page);
        tests(page);
        Due.end("ReadmeTest");
    }

    // ---- Examples

    private static void examples(String page) {
        int blocks = 0;
        Matcher block = Pattern.compile("```java\\n(.*?)```", Pattern.DOTALL).matcher(page);
        PeriodSlots slots = new PeriodSlots();
        while (block.find()) {
            blocks++;
            for (String line : block.group(1).split("\n")) {
                slots = line.equals(NEW_OBJECT) ? new PeriodSlots() : slots;
                example(slots, line);
            }
        }
        Due.holds("README.md has examples", blocks > 0);
    }

    private static void example(PeriodSlots slots, String line) {
        Matcher typing = TYPING.matcher(line);
        Matcher call = CALL.matcher(line);
        if (typing.matches()) {
            Due.type(slots, typing.group(1));
        } else if (call.matches()) {
            String plain = call.group(1).replaceAll("(\\d)L\\b", "$1");
            Due.is("README.md: " + line, Trial.answer(slots, plain), number(call.group(2)));
        } else {
            boolean isLoop = line.equals("    slots.write(letter);") || line.equals("}");
            Due.holds("README.md: an example without an answer: " + line, isLoop || line.equals(NEW_OBJECT));
        }
    }

    private static long number(String word) {
        return CONSTANTS.containsKey(word) ? CONSTANTS.get(word) : Long.parseLong(word);
    }

    // ---- Tables

    /** The cells of all rows whose first cell matches. */
    private static List<String[]> rows(String page, String first) {
        List<String[]> found = new ArrayList<>();
        for (String line : page.split("\n")) {
            if (line.matches("\\| `" + first + "` \\|.*\\|")) {
                found.add(line.substring(1, line.length() - 1).split("\\|"));
            }
        }
        return found;
    }

    private static void methods(String page) {
        List<String[]> rows = rows(page, "\\w+\\(.*\\)");
        Due.is("README.md: methods", rows.size(), PROMISES - 1);
        for (int k = 0; k < rows.size(); k++) {
            String[] row = rows.get(k);
            String section = Document.section(k + 2);
            String what = "README.md: " + row[0].trim();
            Due.is(what + " has four cells", row.length, 4);
            Due.holds(what + " stands as in " + Document.heading(k + 2), row[0].trim().equals(signature(section)));
            Due.holds(what + " has the errors " + errors(section), row[3].trim().equals(errors(section)));
            boolean tellsNone = (row[1] + row[2]).contains("NONE");
            Due.holds(what + " tells of NONE as the document does", tellsNone == section.contains("NONE"));
        }
    }

    private static String signature(String section) {
        Matcher face = Pattern.compile("`\\w+ (\\w+)\\((.*)\\)`").matcher(section);
        return face.find() ? "`" + face.group(1) + "(" + face.group(2).replaceAll("\\w+ (\\w+)", "$1") + ")`" : "";
    }

    private static String errors(String section) {
        List<String> found = new ArrayList<>();
        Matcher error = Pattern.compile("\\b(UNKNOWN|BAD|LATE|FULL)\\b").matcher(section);
        while (error.find()) {
            found.add(error.group());
        }
        return String.join(", ", found);
    }

    private static void answers(String page) {
        for (Map.Entry<String, Integer> constant : CONSTANTS.entrySet()) {
            List<String[]> rows = rows(page, constant.getKey());
            Due.is("README.md: rows for " + constant.getKey(), rows.size(), 1);
            for (String[] row : rows) {
                Due.is("README.md: the number of " + constant.getKey(), number(row[1].trim()), constant.getValue());
            }
        }
    }

    // ---- Tests

    private static void tests(String page) throws IOException {
        Due.holds("README.md names the command", page.contains("\n    .ci/run\n"));
        Due.holds(".ci/run is there", Files.exists(Path.of(".ci/run")));
        try (Stream<Path> files = Files.list(Path.of("src/test/java"))) {
            for (Path file : files.toList()) {
                String name = file.getFileName().toString().replace(".java", "");
                Due.holds("README.md names " + name, !name.endsWith("Test") || page.contains("- `" + name + "`"));
            }
        }
    }
}
