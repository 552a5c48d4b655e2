import java.io.IOException;
import java.nio.file.Files;
import java.nio.file.Path;

/**
 * The boundary cases of the document, a test for each of its sentences; the second argument is the document's path.
 * A sentence without a test of its own fails here, so that a new one is not forgotten.
 */
public final class EdgesTest {
    /** What these say is free, or is what the other sentences of the same part or promise are about. */
    private static final String[] WITHOUT_BOUNDARY = {"What it is: A grouper of records", "Not promised: How the state",
        "Not promised: Use of one object", "9: Returns the watermark", "10: Returns the number.",
        "11: `time`: the time", "11: Returns true if it would be", "13: Returns the number.",
        "14: Returns the number.", "15: `burst`: the number", "15: Returns the number.", "16: `burst`: the number",
        "16: Returns true if it is", "17: `burst`: the number", "17: Returns true if this is so",
        "18: Returns the number of the burst", "19: Returns the number of the burst", "20: `burst`: the number",
        "20: Returns the time or the value", "21: `burst`: the number", "21: Returns the watermark",
        "22: Returns the number of the burst", "23: Returns the average.", "24: Returns the number.",
        "25: Returns the number of bursts.", "26: `burst`: the number", "28: Returns the number.",
        "29: Returns the number.", "30: Returns the sum.", "31: Returns the sum.",
        "34: Returns the error position."};

    private EdgesTest() {
    }

    public static void main(String[] arguments) throws IOException {
        Sentences sentences = new Sentences(Files.readString(Path.of(arguments[1])));
        WholeEdges.all(sentences);
        RecordEdges.all(sentences);
        FiringEdges.all(sentences);
        TextEdges.all(sentences);
        ExceptionEdges.all(sentences);
        PreciseEdges.all(sentences);
        SettingEdges.all(sentences);
        TakingEdges.all(sentences);
        BurstEdges.all(sentences);
        PlaceEdges.all(sentences);
        LogEdges.all(sentences);
        InputEdges.all(sentences);
        for (String beginning : WITHOUT_BOUNDARY) {
            sentences.pass(beginning);
        }
        sentences.end();
        Check.end();
    }
}
