import java.io.IOException;
import java.nio.file.Files;
import java.nio.file.Path;
import java.util.ArrayList;
import java.util.List;

/** The document, cut into what stands before the promises, the promises, and the pieces of their sentences. */
final class Document {
    private static final Path FILE = Path.of("../shared/DOC.md");
    static final int PROMISES = 49;

    private final String[] sections = new String[PROMISES + 1];
    private final String terms;

    Document() throws IOException {
        String whole = Files.readString(FILE);
        for (int promise = 1; promise <= PROMISES; promise++) {
            int from = whole.indexOf("\n## Promise " + promise + ":");
            int to = whole.indexOf("\n## ", from + 1);
            sections[promise] = plain(whole.substring(from, to));
        }
        sections[0] = plain(whole.substring(0, whole.indexOf("\n## Promise 1:")));
        terms = sections[0].substring(sections[0].indexOf("## Terms") + 8, sections[0].indexOf("Examples: Each"));
    }

    /** With single blanks, since line breaks mean nothing. */
    private static String plain(String text) {
        return text.replaceAll("\\s+", " ");
    }

    /** Whether a promise, or what stands before the promises, has these words. */
    boolean says(int promise, String words) {
        return sections[promise].contains(words) || sections[0].contains(words);
    }

    List<String> piecesOfTerms() {
        return piecesOf(terms);
    }

    /** What stands behind the promise's head and the method's name and arguments. */
    List<String> piecesOf(int promise) {
        String section = sections[promise];
        return piecesOf(section.substring(section.indexOf(")`: ") + 4));
    }

    /** Clauses end with a semicolon, sentences with a full stop; the points of a list begin with a hyphen. */
    private static List<String> piecesOf(String text) {
        List<String> pieces = new ArrayList<>();
        for (String piece : text.split("(?<=[.;]) |(?= - [`A-Z])| (?=Returns )")) {
            String bare = bare(piece);
            if (!bare.isEmpty()) {
                pieces.add(bare);
            }
        }
        return pieces;
    }

    /** Without the signs at both ends that only divide. */
    static String bare(String piece) {
        return piece.strip().replaceAll("^- ", "").replaceAll("[.;:]+$", "").strip();
    }
}
