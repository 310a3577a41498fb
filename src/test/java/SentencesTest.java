import java.io.IOException;
import java.lang.reflect.Method;
import java.util.ArrayList;
import java.util.List;

/**
 * Every test of a boundary case quotes the document, and every sentence of the document that can name one
 * is quoted by such a test: in the sections of the promises by a test with the same number.
 */
final class SentencesTest {
    /** What is no sentence, or names no boundary case by itself. */
    private static final List<String> WITHOUT_EDGE = List.of("Levels", "Frames", "Nodes", "Phases", "A bit time",
        "Errors of nodes", "Accepting", "The text", "Errors of calls", "First each node drives a level",
        "Samples of single nodes can be disturbed", "Besides, the class computes the bits of frames, worst-case lengths, and "
        + "worst-case response times of periodic messages, and predicts when a frame will have been sent",
        "Each node samples the level of the bus", "Stuffing: the basic bits are sent with stuff bits",
        "The stuffed part of a frame consists of its basic bits and stuff bits", "`node`: a node",
        "`identifier`: the identifier", "`remote`: whether it is a remote frame", "`data`: the data", "Returns the node",
        "Computes the worst-case response time of a periodic message", "Computes a checksum", "Returns the checksum");
    /** What a bad value is stands with the arguments. */
    private static final String BAD_VALUE = "BAD_VALUE";

    public static void main(String[] args) throws IOException {
        Check check = new Check();
        Document document = new Document();
        List<Edge> edges = new ArrayList<>();
        for (Class<?> tests : Edges.ALL) {
            for (Method test : Edges.testsOf(tests)) {
                Edge edge = Edges.edgeOf(test);
                edges.add(edge);
                check.holds("promise " + edge.promise() + " says '" + edge.says() + "': it",
                    document.says(edge.promise(), edge.says()));
            }
        }
        for (String piece : document.piecesOfTerms()) {
            check.holds("'" + piece + "' of the terms has a test: it", isQuoted(edges, 0, piece));
        }
        for (int promise = 1; promise <= Document.PROMISES; promise++) {
            for (String piece : document.piecesOf(promise)) {
                check.holds("'" + piece + "' of promise " + promise + " has a test: it", isQuoted(edges, promise, piece));
            }
        }
        check.end();
    }

    private static boolean isQuoted(List<Edge> edges, int promise, String piece) {
        if (WITHOUT_EDGE.contains(piece) || BAD_VALUE.equals(piece)) {
            return true;
        }
        for (Edge edge : edges) {
            String words = Document.bare(edge.says());
            if ((promise == 0 || edge.promise() == promise) && (words.contains(piece) || piece.contains(words))) {
                return true;
            }
        }
        return false;
    }
}
