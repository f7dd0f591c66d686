import java.io.IOException;
import java.io.UncheckedIOException;
import java.nio.file.Files;
import java.nio.file.Path;
import java.util.ArrayList;
import java.util.BitSet;
import java.util.List;

/** The sentences of DOC.md, and which of their words a test stands for. */
final class Document {
    private static final Path FILE = Path.of("..", "shared", "DOC.md");

    private final String words = sentencesOf(textOf(FILE));
    private final BitSet stoodFor = new BitSet();

    private static String textOf(Path file) {
        try {
            return Files.readString(file);
        } catch (IOException e) {
            throw new UncheckedIOException(e);
        }
    }

    /** Without what isn't promised, and without headings and signatures, which FaceTest has. */
    private static String sentencesOf(String text) {
        return text.substring(0, text.indexOf("## Not promised"))
            .replaceAll("(?s)```java.*?```", " ")
            .replaceAll("(?m)^#.*$", " ")
            .replaceAll("```(text)?", " ")
            .replaceAll("`[^`]*`: ", " ")
            .replaceAll("\\s+", " ");
    }

    /** How often the document says these words; those that it says once have a test from here on. */
    int mark(String quote) {
        int times = 0;
        for (int at = words.indexOf(quote); at >= 0; at = words.indexOf(quote, at + 1)) {
            stoodFor.set(at, at + quote.length());
            times++;
        }
        return times;
    }

    /** The pieces of the document that no test stands for. */
    List<String> leftOut() {
        List<String> pieces = new ArrayList<>();
        for (int at = stoodFor.nextClearBit(0); at < words.length();) {
            int next = stoodFor.nextSetBit(at);
            int end = next < 0 ? words.length() : next;
            String piece = words.substring(at, end).trim();
            if (!piece.isEmpty()) {
                pieces.add(piece);
            }
            at = stoodFor.nextClearBit(end);
        }
        return pieces;
    }
}
