import java.io.IOException;
import java.nio.file.Files;
import java.nio.file.Path;
import java.util.ArrayList;
import java.util.Arrays;
import java.util.List;
import java.util.regex.Matcher;
import java.util.regex.Pattern;

/** The document's words behind its title, the class's face apart, and which of them a test has spoken of. */
final class Document {
    private static final Path PLACE = Path.of("../shared/DOC.md");

    private final String words;
    private final boolean[] spoken;

    private Document(String words) {
        this.words = words;
        this.spoken = new boolean[words.length()];
    }

    /** Without words, if the document is not where it should be: then nothing can be held against it. */
    static Document read() throws IOException {
        if (!Files.exists(PLACE)) {
            return new Document("");
        }
        String all = Files.readString(PLACE);
        int from = Math.max(0, all.indexOf("An object is used"));
        int to = Math.max(from, all.indexOf("## Not promised"));
        String bare = all.substring(from, to)
                .replaceAll("(?s)```java.*?```", "")
                .replaceAll("(?m)^(## |```).*$", "")
                .replaceAll("(?m)^`[^`\n]*`:", "")
                .replaceAll("==== \\d\\.", "")
                .replace("`", "");
        return new Document(bare.replaceAll("\\s+", " "));
    }

    boolean isThere() {
        return !words.isEmpty();
    }

    /** Marks these words where they stand and were not spoken of yet; false if they stand nowhere. */
    boolean speakOf(String quote) {
        if (!isThere()) {
            return true;
        }
        int at = words.indexOf(quote);
        for (int next = at; next >= 0; next = words.indexOf(quote, next + 1)) {
            if (!spoken[next]) {
                at = next;
                break;
            }
        }
        if (at < 0) {
            return false;
        }
        Arrays.fill(spoken, at, at + quote.length(), true);
        return true;
    }

    /** Runs of words that no test has spoken of. */
    List<String> unspoken() {
        StringBuilder left = new StringBuilder(words);
        for (int i = 0; i < spoken.length; i++) {
            if (spoken[i]) {
                left.setCharAt(i, '\n');
            }
        }
        List<String> runs = new ArrayList<>();
        Matcher run = Pattern.compile("[^\n]*\\w[^\n]*").matcher(left);
        while (run.find()) {
            runs.add(run.group().trim());
        }
        return runs;
    }
}
