import java.io.IOException;
import java.nio.charset.StandardCharsets;
import java.nio.file.Files;
import java.nio.file.Path;
import java.util.regex.Matcher;
import java.util.regex.Pattern;

/**
 * The document, whose sentences are quoted one by one, each with a test of its own.
 * A quote that does not stand in the document is a fault, and so is a sentence that nobody has quoted.
 */
final class Doc {
    private final String text;
    private final boolean[] quoted;
    private int faults = 0;

    Doc() throws IOException {
        Path path = Path.of(System.getProperty("shared", "../shared"), "DOC.md");
        text = new String(Files.readAllBytes(path), StandardCharsets.UTF_8);
        quoted = new boolean[text.length()];
        skip("(?s).*?\n## Terms\n");
        skip("(?s)\n## Not promised.*");
        skip("\n## Promise \\d+: .*\n");
        // The face is RulesTest's, and so are the lines that the interface says.
        skip("\n`[^`\n]*`: ");
        skip("\nAhead of the calls .*");
        skip("\n```\\w*");
        skip("\n\\d\\. ");
    }

    private void skip(String pattern) {
        Matcher m = Pattern.compile(pattern).matcher(text);
        while (m.find()) {
            java.util.Arrays.fill(quoted, m.start(), m.end(), true);
        }
    }

    void terms(String quote, Runnable test) {
        sentence("terms", "## Terms", "## Promise 1:", quote, test);
    }

    void promise(int number, String quote, Runnable test) {
        String next = number == 45 ? "## Not promised" : "## Promise " + (number + 1) + ":";
        sentence("promise " + number, "## Promise " + number + ":", next, quote, test);
    }

    private void sentence(String where, String from, String to, String quote, Runnable test) {
        int begin = text.indexOf("\n" + from);
        int at = text.indexOf(quote, begin);
        if (begin < 0 || at < 0 || at > text.indexOf("\n" + to)) {
            fault(where + " has no such sentence: " + quote);
            return;
        }
        // A short quote ("BEYOND.") is the first that has not been quoted yet.
        while (quoted[at] && text.indexOf(quote, at + 1) >= 0 && text.indexOf(quote, at + 1) < text.indexOf("\n" + to)) {
            at = text.indexOf(quote, at + 1);
        }
        if (quoted[at]) {
            fault(where + ", quoted twice: " + quote);
        }
        java.util.Arrays.fill(quoted, at, at + quote.length(), true);
        int asked = Due.asked();
        Due.about(where + ", \"" + quote + "\"");
        test.run();
        Due.about("");
        if (Due.asked() == asked) {
            fault(where + ", nothing was asked: " + quote);
        }
    }

    private void fault(String what) {
        faults++;
        System.out.println(what);
    }

    /** Every letter and digit of the terms and the promises must have been quoted. */
    void end() {
        for (int i = 0; i < text.length(); i++) {
            if (!quoted[i] && Character.isLetterOrDigit(text.charAt(i))) {
                int end = i;
                while (end < text.length() && !quoted[end]) {
                    end++;
                }
                fault("without a test of its own: " + text.substring(i, end).trim());
                i = end;
            }
        }
        if (faults != 0) {
            System.out.println(faults + " faults in the sentences");
            System.exit(1);
        }
    }
}
