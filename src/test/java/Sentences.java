import java.io.IOException;
import java.nio.charset.StandardCharsets;
import java.nio.file.Files;
import java.nio.file.Path;
import java.util.ArrayList;
import java.util.List;
import java.util.regex.Pattern;

/**
 * The sentences of the document: a test names the one that it holds the class to, with its promise, and it
 * must stand there so; at the end each sentence, from the first line to the last, must have been named.
 */
final class Sentences {
    private static final String DOCUMENT = "../shared/DOC.md";
    private static final String PARTS = "\n## Promise |\n## Not promised";
    private static final int PROMISES = 29;
    private static final int NOT_PROMISED = PROMISES + 1;
    private static final String FENCE = "```java";
    private static final Pattern CALL = Pattern.compile("public .*\\(.*;");
    /** Headings, and lines that tell no more than where in the interface a call stands. */
    private static final String[] NO_SENTENCES = {FENCE, "Slots, sticks", "Starting, maps", "Writing, reading, ticks",
        "Ahead of the calls `plug`, `pull`, `fail` the interface says: ---- sticks.",
        "Ahead of the calls `start`, `stop`, `write`, `read`, `rest`, `set` the interface says: ---- the machine.",
        "Ahead of the calls `append`, `clearBuffer`, `firstError`, `run`, `keep`, `goBack`, `undo` the interface says: "
            + "---- texts, the snapshot."};

    /** The text ahead of the promises, each promise's, and the one behind them; and what no test has named yet. */
    private static final List<String> TEXTS = read();
    private static final List<String> UNNAMED = new ArrayList<>(TEXTS);

    private Sentences() {
    }

    private static List<String> read() {
        try {
            return List.of(Files.readString(Path.of(DOCUMENT), StandardCharsets.UTF_8).split(PARTS));
        } catch (IOException e) {
            throw new IllegalStateException("no document at " + DOCUMENT, e);
        }
    }

    /** The calls as the document's face declares them, a line each. */
    static List<String> face() {
        List<String> lines = new ArrayList<>();
        for (String line : TEXTS.get(0).split("\n")) {
            if (CALL.matcher(line.strip()).matches()) {
                lines.add(line.strip());
            }
        }
        return lines;
    }

    private static void begin(String place, int section, String sentence) {
        Check.about(place + ", \"" + sentence + "\"");
        Check.same("the sentence stands in the document", TEXTS.get(section).contains(sentence) ? 1 : 0, 1);
        UNNAMED.set(section, UNNAMED.get(section).replace(sentence, " "));
    }

    /** What follows tests this sentence of the promise. */
    static void of(int promise, String sentence) {
        begin("promise " + promise, promise, sentence);
    }

    /** What follows tests this sentence, which stands ahead of the promises, by this promise. */
    static void terms(int promise, String sentence) {
        begin("promise " + promise, 0, sentence);
    }

    /** What follows tests this sentence, which stands behind the promises. */
    static void notPromised(String sentence) {
        begin("not promised", NOT_PROMISED, sentence);
    }

    private static boolean isSentence(String line) {
        for (String each : NO_SENTENCES) {
            if (line.equals(each)) {
                return false;
            }
        }
        return !line.startsWith("#") && line.chars().anyMatch(Character::isLetter);
    }

    /** Each sentence of the document has been named. */
    static void allAreNamed() {
        Check.about("all sentences");
        Check.same("parts of the document", TEXTS.size(), PROMISES + 2);
        for (int section = 0; section < UNNAMED.size(); section++) {
            String text = UNNAMED.get(section);
            // A promise's name, which is left of its heading, tells nothing that its first line does not.
            text = text.substring(section == 0 ? 0 : text.indexOf('\n'));
            for (String line : text.split("\n")) {
                String bare = line.strip();
                Check.same("section " + section + ", unnamed \"" + bare + "\"", isSentence(bare) ? 1 : 0, 0);
            }
        }
    }
}
