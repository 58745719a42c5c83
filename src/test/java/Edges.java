import java.io.IOException;
import java.io.UncheckedIOException;
import java.nio.charset.StandardCharsets;
import java.nio.file.Files;
import java.nio.file.Path;

/** Boundary cases, each told by the document's own words, which are looked up in the document. */
final class Edges {
    private static final Path DOCUMENT = Path.of("..", "shared", "DOC.md");

    private final Checks checks;
    private final String document;
    private String words = "";

    /** A call that may be refused; a boolean counts 1 or 0. */
    interface Call {
        long answer();
    }

    Edges(String name) {
        checks = new Checks(name);
        document = plain(read());
    }

    private static String read() {
        try {
            return Files.exists(DOCUMENT) ? Files.readString(DOCUMENT, StandardCharsets.ISO_8859_1) : "";
        } catch (IOException e) {
            throw new UncheckedIOException(e);
        }
    }

    private static String plain(String text) {
        return text.replaceAll("\\s+", " ");
    }

    /** The words whose boundary the next cases hold the class to. */
    void says(String words) {
        this.words = words;
        checks.due("the document says '" + words + "'", document.isEmpty() || document.contains(plain(words)), true);
    }

    void due(String what, long got, long want) {
        checks.due("'" + words + "': " + what, got, want);
    }

    void due(String what, boolean got, boolean want) {
        checks.due("'" + words + "': " + what, got, want);
    }

    void due(String what, String got, String want) {
        checks.due("'" + words + "': " + what, got.equals(want), true);
    }

    /** It answers so, and nothing is otherwise behind it. */
    void refused(String what, PrintsGoOn prints, Call call, long want) {
        String before = State.of(prints);
        due(what, call.answer(), want);
        due(what + " changes nothing", before.equals(State.of(prints)), true);
    }

    void fault(int sort, String text, int want) {
        PrintsGoOn prints = new PrintsGoOn();
        int got = Checks.faultOf(prints, sort, text);
        due("fault(" + sort + ") of '" + text + "'", got, want);
        int length = prints.count(4);
        int number = prints.text(sort);
        due("text(" + sort + ") of '" + text + "' is refused", number == PrintsGoOn.NONE, want != PrintsGoOn.NONE);
        due("the tape behind '" + text + "'", prints.count(4), want == PrintsGoOn.NONE ? 0 : length);
    }

    void end() {
        checks.end();
    }
}
