import java.io.IOException;
import java.nio.file.Files;
import java.nio.file.Path;

/** The document's own words, quoted in their order: which of them are checked, and whether any was left out. */
final class Document {
    private static final Path TEXT = Path.of("..", "shared", "DOC.md");
    private static final StringBuilder quoted = new StringBuilder();
    private static String open = "";
    private static int checksAhead = 0;

    private Document() {
    }

    /** Words that promise something: the checks from here to the next words are theirs, and there must be one. */
    static void says(String words) {
        ends();
        quoted.append(words).append('\n');
        open = words;
        checksAhead = Due.checks();
        Due.said(words);
    }

    /** Words that promise nothing by themselves: headings, names, what is free. */
    static void names(String words) {
        ends();
        quoted.append(words).append('\n');
    }

    private static void ends() {
        if (!open.isEmpty() && Due.checks() == checksAhead) {
            Due.yes("a check of these words", false);
        }
        open = "";
        Due.said("");
    }

    /** Every word of the document stands here, in its order: a sentence without a test would be found missing. */
    static void isWhole() throws IOException {
        ends();
        if (!Files.exists(TEXT)) {
            return;
        }
        String[] due = plain(Files.readString(TEXT)).split(" ");
        String[] told = plain(quoted.toString()).split(" ");
        int at = 0;
        while (at < due.length && at < told.length && due[at].equals(told[at])) {
            at++;
        }
        Due.is("words quoted, as far as '" + around(told, at) + "' where the document has '" + around(due, at) + "'",
                due.length, at == told.length ? at : -1 - at);
    }

    private static String plain(String text) {
        return text.replaceAll("(?m)^```.*$", " ").replaceAll("[`#]", " ").replaceAll("\\s+", " ").trim();
    }

    private static String around(String[] words, int at) {
        StringBuilder text = new StringBuilder();
        for (int i = Math.max(0, at - 4); i < Math.min(words.length, at + 4); i++) {
            text.append(words[i]).append(' ');
        }
        return text.toString().trim();
    }
}
