import java.io.IOException;
import java.nio.file.Files;
import java.nio.file.Path;
import java.util.ArrayList;
import java.util.LinkedHashMap;
import java.util.List;
import java.util.Map;

/** Checks that are told under the sentence of the document that they hold to. */
final class Sentences {
    private final Check check = new Check();
    private final Map<String, List<String>> wordsBySection = new LinkedHashMap<>();
    private String section = "";
    private String words = "";
    private int checks = 1;

    /** What is due from now on is due by these words of a section. */
    void by(String newSection, String newWords) {
        requireChecks();
        section = newSection;
        words = newWords;
        checks = 0;
        wordsBySection.computeIfAbsent(section, s -> new ArrayList<>()).add(words);
    }

    void due(String what, Object want, Check.Call call) {
        checks++;
        check.due(section + " \"" + words + "\" " + what, want, call);
    }

    private void requireChecks() {
        if (checks == 0) {
            check.due(section + " \"" + words + "\" has checks", true, () -> false);
        }
    }

    /**
     * Holds the words against the document: each stands in its section, and those of the terms and of
     * the promises leave nothing over, so that a sentence that comes anew asks for its test.
     */
    void lookUp(Path document) throws IOException {
        if (!Files.isReadable(document)) {
            System.out.println("no document at " + document + ": its sentences are not looked up");
            return;
        }
        for (String text : Files.readString(document).split("\n## ")) {
            String title = text.lines().findFirst().orElse("").replaceAll(":.*", "");
            String body = text.substring(text.indexOf('\n') + 1).replaceAll("`[^`\n]+`:", "");
            String left = without(title, body);
            if (title.equals("Terms") || title.startsWith("Promise ")) {
                check.due(title + ": words without a test", "", left::strip);
            }
        }
        check.due("sections that are not there", "[]", wordsBySection::keySet);
    }

    private String without(String title, String body) {
        String left = body;
        List<String> found = wordsBySection.remove(title);
        for (String some : found == null ? List.<String>of() : found) {
            check.due(title + " says \"" + some + "\"", true, () -> body.contains(some));
            left = left.replace(some, "");
        }
        return left;
    }

    void end() {
        requireChecks();
        check.end();
    }
}
