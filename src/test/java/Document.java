import java.io.IOException;
import java.io.UncheckedIOException;
import java.nio.file.Files;
import java.nio.file.Path;
import java.util.ArrayList;
import java.util.LinkedHashMap;
import java.util.LinkedHashSet;
import java.util.List;
import java.util.Map;
import java.util.Set;

/**
 * The document's sentences, cut at full stops and semicolons. A test says which one it holds the class to; a sentence
 * that no test has spoken of is an error at the end.
 *
 * <p>The sections are "W" (What it is), "D0" to "D7" (Description), "C" (the constants) and "P1" to "P51".
 */
final class Document {
    private static final Path PLACE = Path.of("../shared/DOC.md");
    private static final Map<String, List<String>> SECTIONS = read();
    private static final Set<String> SAID = new LinkedHashSet<>();

    private Document() {
    }

    /** Marks the one sentence of the section that has these words as tested. */
    static void says(String section, String words) {
        List<String> found = SECTIONS.getOrDefault(section, List.of()).stream().filter(s -> s.contains(words)).toList();
        Check.due("sentences of " + section + " with \"" + words + "\"", found.size(), 1);
        found.forEach(sentence -> SAID.add(section + ": " + sentence));
    }

    /** Every sentence that no test has spoken of is printed as an error. */
    static void dueAllSaid() {
        int count = 0;
        for (Map.Entry<String, List<String>> section : SECTIONS.entrySet()) {
            for (String sentence : section.getValue()) {
                count++;
                String name = section.getKey() + ": " + sentence;
                Check.due("tests of " + name, SAID.contains(name) ? 1 : 0, 1);
            }
        }
        Check.due("promises", SECTIONS.keySet().stream().filter(s -> s.startsWith("P")).count(), 51);
        System.out.println(count + " sentences of the document, each with a test");
    }

    private static Map<String, List<String>> read() {
        Map<String, List<String>> sections = new LinkedHashMap<>();
        String section = "";
        try {
            for (String line : Files.readAllLines(PLACE)) {
                String next = sectionAt(line);
                boolean text = next == null && !section.isEmpty() && !line.isBlank() && !line.matches("(----|`|The con).*");
                section = next == null ? section : next;
                if (text) {
                    sections.computeIfAbsent(section, s -> new ArrayList<>()).addAll(List.of(line.split("(?<=[.;]) ")));
                }
            }
        } catch (IOException e) {
            throw new UncheckedIOException(e);
        }
        return sections;
    }

    /** The section that begins at the line, "" for a part that is no section; null if none begins there. */
    private static String sectionAt(String line) {
        if (line.matches("## Promise \\d+: .*")) {
            return "P" + line.replaceAll("## Promise (\\d+): .*", "$1");
        }
        if (line.matches("[1-7]\\. [A-Z -]+(AND [A-Z]+)?")) {
            return "D" + line.charAt(0);
        }
        return switch (line) {
            case "## What it is" -> "W";
            case "## Description" -> "D0";
            case "The constants:" -> "C";
            case "## The public face", "## Not promised", "Examples (each result is that of a run):" -> "";
            default -> line.startsWith("The constructor and the methods follow") ? "" : null;
        };
    }
}
