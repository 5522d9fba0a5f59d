import java.io.IOException;
import java.nio.charset.StandardCharsets;
import java.nio.file.Files;
import java.nio.file.Path;
import java.util.ArrayList;
import java.util.List;

/**
 * The sentences of the document: a test names the one that it holds the class to, with its promise, and it
 * must stand there so; at the end each sentence of the terms and of the promises must have been named.
 */
final class Sentences {
    private static final String DOCUMENT = "../shared/DOC.md";
    private static final String PROMISE = "\n## Promise ";
    private static final String CODE_AHEAD = "^`[^`]*`: ";
    /** Headings, and lines that tell no more than where in the interface a call stands. */
    private static final String[] NO_SENTENCES = {"Slots, sticks", "Starting, maps", "Writing, reading, ticks",
        "Ahead of the calls `plug`, `pull`, `fail` the interface says: ---- sticks.",
        "Ahead of the calls `start`, `stop`, `write`, `read`, `rest`, `set` the interface says: ---- the machine.",
        "Ahead of the calls `append`, `clearBuffer`, `firstError`, `run`, `keep`, `goBack`, `undo` the interface says: "
            + "---- texts, the snapshot."};

    /** The text ahead of the promises, then each promise's; and what of it no test has named yet. */
    private static final List<String> TEXTS = read();
    private static final List<String> UNNAMED = new ArrayList<>(TEXTS);

    private Sentences() {
    }

    private static List<String> read() {
        String document;
        try {
            document = Files.readString(Path.of(DOCUMENT), StandardCharsets.UTF_8);
        } catch (IOException e) {
            throw new IllegalStateException("no document at " + DOCUMENT, e);
        }
        document = document.substring(0, document.indexOf("\n## Not promised"));
        return List.of(document.split(PROMISE));
    }

    private static void begin(int promise, int section, String sentence) {
        String name = "promise " + promise + ", \"" + sentence + "\"";
        Check.about(name);
        Check.same("the sentence stands in the document", TEXTS.get(section).contains(sentence) ? 1 : 0, 1);
        UNNAMED.set(section, UNNAMED.get(section).replace(sentence, " "));
    }

    /** What follows tests this sentence of the promise. */
    static void of(int promise, String sentence) {
        begin(promise, promise, sentence);
    }

    /** What follows tests this sentence, which stands ahead of the promises, by this promise. */
    static void terms(int promise, String sentence) {
        begin(promise, 0, sentence);
    }

    private static boolean isSentence(String line) {
        for (String each : NO_SENTENCES) {
            if (line.equals(each)) {
                return false;
            }
        }
        return !line.startsWith("#") && line.chars().anyMatch(Character::isLetter);
    }

    /** Each sentence of the terms and of the promises has been named. */
    static void allAreNamed() {
        Check.about("all sentences");
        Check.same("promises of the document", TEXTS.size() - 1, 29);
        for (int section = 0; section < UNNAMED.size(); section++) {
            String text = UNNAMED.get(section);
            // The heading of a promise goes with its first line, as what is ahead of the terms does.
            text = text.substring(section == 0 ? text.indexOf("\n## Terms") : text.indexOf('\n'));
            for (String line : text.split("\n")) {
                String bare = line.replaceFirst(CODE_AHEAD, "").strip();
                Check.same("section " + section + ", unnamed \"" + bare + "\"", isSentence(bare) ? 1 : 0, 0);
            }
        }
    }
}
