import java.io.IOException;
import java.io.UncheckedIOException;
import java.nio.file.Files;
import java.nio.file.Path;
import java.util.ArrayList;
import java.util.HashSet;
import java.util.List;
import java.util.Set;

/**
 * The sentences of ../shared/DOC.md. A test of a boundary case says which of them it is about, so
 * that a sentence without a test, and a test of words that the document does not have, are found.
 */
final class Doc {
    private static final Path FILE = Path.of("../shared/DOC.md");

    /** What tells no boundary case: headings, words of introduction, plain answers. */
    private static final Set<String> WITHOUT_BOUNDARY = Set.of(
            "Houses, screens, films", "All numbers are integers unless something else is said;",
            "Each film has prints;", "The text comes from a byte buffer.", "Error codes.", "The constants:",
            "In the grammars terminals are quoted, * means any number of repetitions, brackets an optional part, "
                    + "and | separates alternatives.",
            "The constructor and the methods follow, a promise each: the signature, then what it does.",
            "- `length`: number of bytes to read", "Returns a count or a setting.",
            "Returns one property of a house.", "Returns one property of a screen.",
            "Returns one property of a film.", "Returns a term of a film.",
            "Returns an amount of all closed weeks.", "Returns an amount of one of the closed weeks.");

    private record Sentence(String section, String text) { }

    private static final List<Sentence> SENTENCES = read();
    private static final Set<Sentence> TESTED = new HashSet<>();
    private static String last = "";
    private static int before;

    private Doc() {
    }

    private static List<Sentence> read() {
        List<Sentence> sentences = new ArrayList<>();
        if (!Files.exists(FILE)) {
            System.out.println("  " + FILE + " is not there: the sentences are not compared with it");
            return sentences;
        }
        String section = "";
        for (String line : linesOf(FILE)) {
            if (line.startsWith("#")) {
                section = sectionOf(line);
            } else if (isPromised(section) && !line.startsWith("`") && !line.isBlank()) {
                for (String text : line.strip().split("(?<=[.;]) ")) {
                    sentences.add(new Sentence(section, text));
                }
            }
        }
        return sentences;
    }

    private static List<String> linesOf(Path file) {
        try {
            return Files.readAllLines(file);
        } catch (IOException e) {
            throw new UncheckedIOException(e);
        }
    }

    private static String sectionOf(String heading) {
        String name = heading.replaceFirst("^#+ ", "");
        return name.startsWith("Promise ") ? name.substring(0, name.indexOf(':')) : name;
    }

    private static boolean isPromised(String section) {
        return section.startsWith("Promise ") || Set.of("Description", "Takings", "Closing a week", "Best programs",
                "Input text", "Operations").contains(section);
    }

    static void says(int promise, String quote) {
        says("Promise " + promise, quote);
    }

    /** Begins the test of a sentence; the checks up to the next one belong to it. */
    static void says(String section, String quote) {
        finishLast();
        last = section + ": " + quote;
        Check.about(last);
        boolean found = SENTENCES.isEmpty();
        for (Sentence sentence : SENTENCES) {
            if (sentence.section.equals(section) && overlap(sentence.text, quote)) {
                TESTED.add(sentence);
                found = true;
            }
        }
        if (!found) {
            Check.yes("the document has these words", false);
        }
        before = Check.count();
    }

    private static boolean overlap(String sentence, String quote) {
        return sentence.contains(quote) || quote.contains(sentence);
    }

    private static void finishLast() {
        if (!last.isEmpty() && Check.count() == before) {
            Check.yes("something is checked", false);
        }
    }

    static void end() {
        finishLast();
        Check.about("");
        for (Sentence sentence : SENTENCES) {
            if (!WITHOUT_BOUNDARY.contains(sentence.text)) {
                Check.yes("a test of " + sentence.section + ": " + sentence.text, TESTED.contains(sentence));
            }
        }
    }
}
