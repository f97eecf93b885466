import java.io.IOException;
import java.util.List;

/** The five examples of the document, as they stand there. */
public final class ExamplesTest {
    private static final Check CHECK = new Check("ExamplesTest");

    public static void main(String[] args) throws IOException {
        String[] examples = examples(Document.allLines()).split(" (?=\\d\\. [A-Z])");
        int calls = 0;
        for (int index = 0; index < examples.length; index++) {
            calls += run(index + 1, examples[index].replaceFirst("^\\d\\. [^:]*: ", "").replaceFirst("\\.$", ""));
        }
        CHECK.is("examples", examples.length, 5);
        CHECK.is("calls of the examples", calls, 45);
        CHECK.finish();
    }

    /** All of them in one line. */
    private static String examples(List<String> lines) {
        StringBuilder text = new StringBuilder();
        boolean isExample = false;
        for (String line : lines) {
            isExample = line.startsWith("Examples:") || isExample && !line.startsWith("## ");
            if (isExample && !line.startsWith("```") && !line.startsWith("Examples:") && !line.isBlank()) {
                text.append(' ').append(line.trim());
            }
        }
        return text.toString().trim();
    }

    private static int run(int number, String example) {
        HymnEndings book = new HymnEndings();
        int calls = 0;
        for (String row : example.split(";")) {
            String[] sides = row.trim().split(" = ", 2);
            String due = sides.length > 1 ? sides[1] : "no answer in the document";
            CHECK.is("example " + number + ", " + sides[0], Calls.answer(book, sides[0]), due);
            calls++;
        }
        return calls;
    }
}
