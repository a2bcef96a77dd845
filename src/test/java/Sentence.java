import java.io.IOException;
import java.nio.file.Files;
import java.nio.file.Path;
import java.util.ArrayList;
import java.util.Arrays;
import java.util.List;

/**
 * A test that stands for one sentence of the document, or for a part of one: its name tells the promise, quotes the
 * sentence and says which boundary of it is meant.
 */
final class Sentence {
    private static final Path DOCUMENT = Path.of("../shared/DOC.md");
    private static final List<String> QUOTES = new ArrayList<>();

    private Sentence() {
    }

    static void test(String place, String quote, String remark, Runnable body) {
        QUOTES.add(quote);
        Check.test(place + ", \"" + quote + "\": " + remark, body);
    }

    /** Tells what is quoted that the document does not say, and what no test quotes of the terms and promises. */
    static void compareWithDocument() {
        String document = documentText();
        String whole = plain(document);
        String part = plain(termsAndPromises(document));
        boolean[] quoted = new boolean[part.length()];
        for (String quote : QUOTES) {
            if (!whole.contains(quote)) {
                System.out.println("note: the document does not say \"" + quote + "\"");
            }
            for (int at = part.indexOf(quote); at >= 0; at = part.indexOf(quote, at + 1)) {
                Arrays.fill(quoted, at, at + quote.length(), true);
            }
        }
        tellUnquoted(part, quoted);
    }

    private static void tellUnquoted(String part, boolean[] quoted) {
        StringBuilder run = new StringBuilder();
        for (int i = 0; i <= part.length(); i++) {
            if (i < part.length() && !quoted[i]) {
                run.append(part.charAt(i));
                continue;
            }
            if (run.chars().anyMatch(Character::isLetterOrDigit)) {
                System.out.println("note: no test quotes \"" + run.toString().strip() + "\"");
            }
            run.setLength(0);
        }
    }

    static String documentText() {
        try {
            return Files.readString(DOCUMENT);
        } catch (IOException e) {
            return "";
        }
    }

    private static String termsAndPromises(String document) {
        int from = Math.max(document.indexOf("## Terms"), 0);
        int end = document.indexOf("## Not promised");
        return document.substring(from, end < from ? document.length() : end);
    }

    /** In one line, without headings, fences and the signatures before promises. */
    private static String plain(String text) {
        return text.replaceAll("(?m)^(#|```).*$", "").replaceAll("(?m)^`[^`]*`:", "").replaceAll("\\s+", " ");
    }
}
