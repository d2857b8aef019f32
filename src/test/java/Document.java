import java.io.IOException;
import java.nio.file.Files;
import java.nio.file.Path;
import java.util.ArrayList;
import java.util.List;
import java.util.Map;
import java.util.TreeMap;

/** ../shared/DOC.md, cut into promises, and which parts of it some test has named. */
final class Document {
    private static final Path FILE = Path.of("../shared/DOC.md");
    // What stands ahead of this in the document only says what the desk is for.
    private static final String FIRST_RULE = "1 BOXES, 24 at most";
    /** Section 0 is all that stands ahead of promise 1. */
    private final Map<Integer, String> texts = new TreeMap<>();
    private final Map<Integer, boolean[]> named = new TreeMap<>();

    /** The document; null where there is none to read. */
    static Document orNull() throws IOException {
        return Files.isRegularFile(FILE) ? new Document(Files.readString(FILE)) : null;
    }

    private Document(String all) {
        String promises = all.substring(all.indexOf("## Promise 1:"), all.indexOf("## Not promised"));
        texts.put(0, plain(commonRules(all)));
        for (String part : promises.split("## Promise ")) {
            if (!part.isBlank()) {
                int number = Integer.parseInt(part.substring(0, part.indexOf(':')));
                // The heading and the call's own line are no sentences.
                texts.put(number, plain(part.substring(part.indexOf("`: ") + 3)));
            }
        }
        texts.forEach((number, text) -> named.put(number, new boolean[text.length()]));
    }

    private static String commonRules(String all) {
        String head = all.substring(all.indexOf(FIRST_RULE), all.indexOf("## The public face"));
        return head + all.substring(all.indexOf("## Terms") + 8, all.indexOf("Ahead of the calls"));
    }

    private static String plain(String text) {
        return text.replace("```text", " ").replace("```", " ").replace("========", " ").replaceAll("\\s+", " ").trim();
    }

    /** Notes that a test of a promise names a sentence: false if neither the promise nor the rules say it. */
    boolean name(int promise, String sentence) {
        return nameIn(promise, sentence) || nameIn(0, sentence);
    }

    private boolean nameIn(int section, String sentence) {
        String text = texts.getOrDefault(section, "");
        boolean found = false;
        for (int at = text.indexOf(sentence); at >= 0; at = text.indexOf(sentence, at + 1)) {
            java.util.Arrays.fill(named.get(section), at, at + sentence.length(), true);
            found = true;
        }
        return found;
    }

    /** Each row of signs that no test has named and that has a letter or a digit. */
    List<String> unnamed() {
        List<String> rest = new ArrayList<>();
        texts.forEach((number, text) -> {
            StringBuilder row = new StringBuilder();
            for (int i = 0; i <= text.length(); i++) {
                if (i < text.length() && !named.get(number)[i]) {
                    row.append(text.charAt(i));
                } else {
                    if (row.toString().matches("(?s).*[A-Za-z0-9].*")) {
                        rest.add((number == 0 ? "the rules" : "promise " + number) + ": " + row);
                    }
                    row.setLength(0);
                }
            }
        });
        return rest;
    }
}
