import java.io.IOException;
import java.nio.file.Files;
import java.nio.file.Path;
import java.util.ArrayList;
import java.util.List;
import java.util.regex.Matcher;
import java.util.regex.Pattern;
import java.util.stream.Stream;

/** Each sentence of the document's terms and promises is quoted by a test of its edges, and each quote is in it. */
public final class SentenceTests {
    private static final Path DOCUMENT = Path.of("../shared/DOC.md");
    private static final Pattern QUOTE =
        Pattern.compile("\\bsentence\\(\\s*((?:\"(?:[^\"\\\\]|\\\\.)*\"[\\s+]*)+)\\)");
    private static final Pattern PIECE = Pattern.compile("\"((?:[^\"\\\\]|\\\\.)*)\"");
    private static final Due due = new Due();

    public static void main(String[] args) throws IOException {
        if (!Files.exists(DOCUMENT)) {
            System.out.println("no document at " + DOCUMENT + ": nothing to hold the quotes against");
            return;
        }
        String words = promised(Files.readString(DOCUMENT));
        boolean[] quoted = new boolean[words.length()];
        List<String> quotes = quotes();
        due.is("some quotes", quotes.size() > 50, true);
        for (String quote : quotes) {
            due.is("in the document: " + quote, mark(words, quote, quoted), true);
        }
        for (String left : leftOver(words, quoted)) {
            due.is("quoted by a test: " + left, false, true);
        }
        due.end();
    }

    /** The terms and the promises on one line, without headings, the signs of code, and the names of the parts. */
    private static String promised(String document) {
        int from = document.indexOf("## Terms");
        int to = document.indexOf("## Not promised");
        due.is("the document has terms, and an end of its promises", from >= 0 && to > from, true);
        return document.substring(Math.max(from, 0), Math.max(to, 0))
            .replaceAll("(?m)^## .*$", " ")
            .replaceAll("(?m)^```.*$", " ")
            .replaceAll("(?m)^`[^`]*\\)`:", " ")
            .replaceAll("==== [IV]+\\.", " ")
            .replaceAll("\\s+", " ");
    }

    private static List<String> quotes() throws IOException {
        List<String> found = new ArrayList<>();
        try (Stream<Path> files = Files.list(Path.of("src/test/java"))) {
            for (Path file : files.filter(f -> f.getFileName().toString().startsWith("Edges")).sorted().toList()) {
                Matcher m = QUOTE.matcher(Files.readString(file));
                while (m.find()) {
                    StringBuilder all = new StringBuilder();
                    Matcher piece = PIECE.matcher(m.group(1));
                    while (piece.find()) {
                        all.append(piece.group(1));
                    }
                    if (all.length() > 0) {
                        found.add(all.toString());
                    }
                }
            }
        }
        return found;
    }

    private static boolean mark(String words, String quote, boolean[] quoted) {
        int at = words.indexOf(quote);
        boolean found = at >= 0;
        while (at >= 0) {
            for (int i = at; i < at + quote.length(); i++) {
                quoted[i] = true;
            }
            at = words.indexOf(quote, at + 1);
        }
        return found;
    }

    /** What no test quotes, as far as it has a letter or a digit. */
    private static List<String> leftOver(String words, boolean[] quoted) {
        List<String> left = new ArrayList<>();
        StringBuilder one = new StringBuilder();
        for (int i = 0; i <= words.length(); i++) {
            if (i < words.length() && !quoted[i]) {
                one.append(words.charAt(i));
            } else {
                if (one.toString().matches(".*[A-Za-z0-9].*")) {
                    left.add(one.toString().trim());
                }
                one.setLength(0);
            }
        }
        return left;
    }
}
