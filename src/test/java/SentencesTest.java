import java.io.IOException;
import java.nio.charset.StandardCharsets;
import java.nio.file.Files;
import java.nio.file.Path;
import java.util.ArrayList;
import java.util.List;
import java.util.regex.Matcher;
import java.util.regex.Pattern;
import java.util.stream.Stream;

/** Each part of a sentence of the document that names an edge stands above cases in some test of edges. */
public final class SentencesTest {
    private static final Checks CHECKS = new Checks("SentencesTest");
    private static final Pattern QUOTE = Pattern.compile("EDGES\\.says\\(\"((?:[^\"\\\\]|\\\\.)*)\"\\)");
    private static final Pattern EDGE = Pattern.compile(
            "\\d|NONE|HIDDEN|False|Exception|at most|at least|nothing|none|one of|alike|can't|refused");

    public static void main(String[] args) throws IOException {
        String document = plain(Files.readString(Path.of("..", "shared", "DOC.md"), StandardCharsets.ISO_8859_1));
        boolean[] quoted = new boolean[document.length()];
        for (String quote : quotes()) {
            for (int at = document.indexOf(quote); at >= 0; at = document.indexOf(quote, at + 1)) {
                for (int i = at; i < at + quote.length(); i++) {
                    quoted[i] = true;
                }
            }
        }
        int terms = document.indexOf("==== 1.");
        int promises = document.indexOf("## Promise 1:");
        parts(document, quoted, terms, promises);
        parts(document, quoted, promises, document.indexOf("## Not promised"));
        CHECKS.end();
    }

    private static String plain(String text) {
        return text.replaceAll("\\s+", " ");
    }

    private static List<String> quotes() throws IOException {
        List<String> quotes = new ArrayList<>();
        try (Stream<Path> files = Files.list(Path.of("src", "test", "java"))) {
            for (Path file : files.filter(path -> path.getFileName().toString().startsWith("Edges")).toList()) {
                Matcher matcher = QUOTE.matcher(Files.readString(file, StandardCharsets.ISO_8859_1));
                while (matcher.find()) {
                    quotes.add(plain(matcher.group(1).replace("\\\"", "\"")));
                }
            }
        }
        CHECKS.due("there are quotes", quotes.size() > 100, true);
        return quotes;
    }

    /** A part ends behind a full stop, a semicolon or a colon that a blank follows. */
    private static void parts(String document, boolean[] quoted, int from, int to) {
        int start = from;
        for (int i = from; i < to; i++) {
            boolean ends = ".;:".indexOf(document.charAt(i)) >= 0 && (i + 1 == to || document.charAt(i + 1) == ' ');
            if (ends) {
                part(document, quoted, start, i + 1);
                start = i + 1;
            }
        }
    }

    private static void part(String document, boolean[] quoted, int from, int to) {
        String text = document.substring(from, to).trim();
        boolean heading = text.startsWith("##") || text.matches("(``` )?==== .*") || text.endsWith("`:");
        if (heading || !EDGE.matcher(text).find()) {
            return;
        }
        int there = 0;
        for (int i = from; i < to; i++) {
            there += quoted[i] ? 1 : 0;
        }
        CHECKS.due("a test quotes '" + text + "'", 2 * there >= to - from, true);
    }
}
