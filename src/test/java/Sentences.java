import java.io.IOException;
import java.io.UncheckedIOException;
import java.nio.file.Files;
import java.nio.file.Path;
import java.util.ArrayList;
import java.util.List;

/** Tests that go by the document's own words: each one names the words that it holds, and no sentence may be left out. */
final class Sentences {
    private static final Path DOCUMENT = Path.of("../shared/DOC.md");
    private static final List<String> HELD = new ArrayList<>();

    private Sentences() {
    }

    /** The words must stand in one sentence of the section; the test is told by them. */
    static void of(String section, String words, Runnable test) {
        boolean there = sentences(section).stream().anyMatch(sentence -> sentence.contains(words));
        Check.due(section + ": the document says: " + words, true, () -> there);
        HELD.add(section + ": " + words);
        Check.under(section + ", \"" + words + "\": ");
        test.run();
        Check.under("");
    }

    /** Each sentence of the section that promises something has words in it that a test has named. */
    static void complete(String section) {
        List<String> all = sentences(section);
        Check.due(section + " is in the document", false, () -> all.isEmpty());
        for (String sentence : all) {
            boolean held = HELD.stream().anyMatch(words -> words.startsWith(section + ": ")
                && sentence.contains(words.substring(section.length() + 2)));
            Check.due(section + ": a test holds: " + sentence, true, () -> held);
        }
    }

    /** Without headings, rows of parameters, the lines on what stands ahead of which calls, and that on all calls. */
    private static List<String> sentences(String section) {
        List<String> found = new ArrayList<>();
        for (String line : body(section).split("\n")) {
            String rest = line.replaceFirst("^`[^`]*`: ", "");
            boolean promises = !rest.isBlank() && !rest.startsWith("- ") && !rest.startsWith("== ")
                && !rest.startsWith("Ahead of the calls ") && !rest.startsWith("Its calls: ");
            if (promises) {
                found.addAll(List.of(rest.split("(?<=\\.) (?=[A-Z])")));
            }
        }
        return found;
    }

    private static String body(String section) {
        String text = document();
        int at = Math.max(text.indexOf("\n## " + section + ":"), text.indexOf("\n## " + section + "\n"));
        if (at < 0) {
            return "";
        }
        int start = text.indexOf('\n', at + 1);
        int end = text.indexOf("\n## ", start);
        return text.substring(start, end < 0 ? text.length() : end);
    }

    private static String document() {
        try {
            return Files.readString(DOCUMENT);
        } catch (IOException thrown) {
            throw new UncheckedIOException(thrown);
        }
    }
}
