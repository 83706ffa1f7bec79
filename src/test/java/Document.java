import java.io.IOException;
import java.io.UncheckedIOException;
import java.nio.file.Files;
import java.nio.file.Path;
import java.util.ArrayList;
import java.util.LinkedHashMap;
import java.util.List;
import java.util.Map;

/** The words of ../shared/DOC.md, so that a test can quote them and none is forgotten. */
final class Document {
    private static final Path PAGE = Path.of("../shared/DOC.md");
    private static final Map<String, String> SECTIONS = read();

    private Document() { }

    private static Map<String, String> read() {
        String page;
        try {
            page = Files.readString(PAGE);
        } catch (IOException e) {
            throw new UncheckedIOException(e);
        }
        Map<String, String> sections = new LinkedHashMap<>();
        for (String section : page.split("(?m)^## ")) {
            int end = section.indexOf('\n');
            sections.put(section.substring(0, end).trim(), section.substring(end + 1));
        }
        return sections;
    }

    private static String inOneLine(String text) {
        return text.trim().replaceAll("\\s+", " ");
    }

    /** The heading of a promise, for instance "Promise 3: wipe". */
    static String heading(int promise) {
        for (String heading : SECTIONS.keySet()) {
            if (heading.startsWith("Promise " + promise + ":")) {
                return heading;
            }
        }
        return "Promise " + promise + ": not in the document";
    }

    /** The section of a promise, or nothing if it is not in the document. */
    static String section(int promise) {
        return SECTIONS.getOrDefault(heading(promise), "");
    }

    /** Tells if the words stand in the section of the promise, or in one that fixes words for all of them. */
    static boolean says(int promise, String words) {
        boolean found = inOneLine(section(promise)).contains(words);
        for (String general : List.of("What it is", "The public face", "Description")) {
            found |= inOneLine(SECTIONS.getOrDefault(general, "")).contains(words);
        }
        return found;
    }

    /** The sentences of a section that describe something: no signatures, no examples. */
    static List<String> sentences(String heading) {
        List<String> found = new ArrayList<>();
        String text = SECTIONS.getOrDefault(heading, "").replaceAll("(?s)\\nExamples: .*", "\n");
        for (String paragraph : text.split("\\n\\s*\\n|\\n(?=- )")) {
            addSentences(inOneLine(paragraph), found);
        }
        return found;
    }

    private static void addSentences(String paragraph, List<String> found) {
        if (paragraph.isEmpty() || paragraph.startsWith("----") || paragraph.matches("`[^`]*`")) {
            return;
        }
        for (String sentence : paragraph.split("(?<=\\.) (?=[A-Z0-9`])")) {
            // A single word, as "Rounds.", is a heading.
            if (sentence.contains(" ")) {
                found.add(sentence);
            }
        }
    }
}
