import java.io.IOException;
import java.nio.file.Files;
import java.nio.file.Path;
import java.util.Map;
import java.util.TreeMap;
import java.util.regex.Matcher;
import java.util.regex.Pattern;

/**
 * The document's sentences, part by part ("Terms 2", "Promise 26"). A test says with of(..) which sentence it
 * holds; a sentence that the document has not is a fault, and so is, at the end, a word that no test has quoted.
 */
final class Sentences {
    private static final Path DOCUMENT = Path.of("../shared/DOC.md");
    private static final int PROMISES = 26;
    private static final int TERMS = 4;

    private final Due due;
    private final Map<String, String> texts = new TreeMap<>();
    private final Map<String, boolean[]> quoted = new TreeMap<>();
    private String now = "";

    Sentences(Due due) throws IOException {
        this.due = due;
        if (!Files.isReadable(DOCUMENT)) {
            System.out.println("without " + DOCUMENT + " the quoted sentences can't be looked up; the answers can");
            return;
        }
        String document = Files.readString(DOCUMENT);
        add("What it is", between(document, "## What it is\n", "## The public face"));
        add("Terms", between(document, "## Terms\n", "======== 1"));
        for (int k = 1; k <= TERMS; k++) {
            add("Terms " + k, between(document, "======== " + k, k < TERMS ? "======== " : "Ahead of the calls"));
        }
        for (int k = 1; k <= PROMISES; k++) {
            add("Promise " + k, between(document, "## Promise " + k + ":", "\n## "));
        }
        add("Not promised", document.substring(Math.max(0, document.indexOf("## Not promised\n"))));
    }

    private static String between(String document, String start, String end) {
        int from = document.indexOf(start);
        int to = document.indexOf(end, from + start.length());
        return from < 0 || to < 0 ? "" : document.substring(from, to);
    }

    /** Only the sentences are kept: no heading, no mark, no signature, one space between words. */
    private void add(String part, String raw) {
        String text = raw.replaceAll("## [^\n]*\n", "").replaceAll("```(text)?", "").replaceAll("======== \\d", "");
        text = text.replaceAll("`[^`]*`: ", "").replaceAll("\\s+", " ").trim();
        due.holds(part + " has no sentence", !text.isEmpty());
        texts.put(part, text);
        quoted.put(part, new boolean[text.length()]);
    }

    /** What is asked from now on holds this sentence. */
    void of(String part, String sentence) {
        now = part + " \"" + sentence + "\"";
        if (texts.isEmpty()) {
            return;
        }
        String text = texts.getOrDefault(part, "");
        int at = text.indexOf(sentence);
        due.holds(now + " does not stand in the document", at >= 0);
        for (int k = 0; at >= 0 && k < sentence.length(); k++) {
            quoted.get(part)[at + k] = true;
        }
    }

    void is(String what, long got, long want) {
        due.is(now + ": " + what, got, want);
    }

    void holds(String what, boolean so) {
        due.holds(now + ": not so: " + what, so);
    }

    /** The same answer is due for each of these numbers. */
    void each(String what, long want, Asked call, int... numbers) {
        for (int number : numbers) {
            is(what + " with " + number, call.answer(number), want);
        }
    }

    /** THE ORDER is just this. */
    void order(String what, ThinTables x, int... nodes) {
        for (int k = 0; k < nodes.length; k++) {
            is(what + ", place " + k, x.node(k, 0), nodes[k]);
        }
    }

    void allAreQuoted() {
        for (String part : texts.keySet()) {
            Matcher words = Pattern.compile("[\\p{L}\\d]+").matcher(texts.get(part));
            while (words.find()) {
                due.holds(part + ": no test quotes \"" + words.group() + "\" at " + words.start(),
                        quoted.get(part)[words.start()]);
            }
        }
    }

    /** One call with one number. */
    interface Asked {
        long answer(int number);
    }
}
