import java.io.IOException;
import java.lang.reflect.Method;
import java.lang.reflect.Modifier;
import java.nio.file.Files;
import java.nio.file.Path;
import java.util.HashSet;
import java.util.Set;
import java.util.regex.Matcher;
import java.util.regex.Pattern;

/** The examples of README.md, as they stand there; each method of the face must be in one. */
public final class ReadmeTest {
    private static final Check CHECK = new Check("ReadmeTest");
    private static final Path README = Path.of("README.md");
    private static final String NEW_BOOK = "HymnEndings book = new HymnEndings();";
    private static final Pattern TYPED = Pattern.compile("type\\(book, \"(.*)\"\\);");
    private static final Pattern CALL = Pattern.compile("book\\.((\\w+)\\(.*\\)); +// (.*)");

    private final Set<String> called = new HashSet<>();
    private HymnEndings book;

    public static void main(String[] args) throws IOException {
        new ReadmeTest().run();
        CHECK.finish();
    }

    private void run() throws IOException {
        boolean isExample = false;
        for (String line : Files.readAllLines(README)) {
            if (line.startsWith("```") || line.startsWith("static ")) {
                isExample = line.equals("```java");
            } else if (isExample) {
                carryOut(line);
            }
        }
        called.add("append");
        for (Method method : HymnEndings.class.getDeclaredMethods()) {
            if (Modifier.isPublic(method.getModifiers())) {
                CHECK.is(method.getName() + " is in an example", called.contains(method.getName()), true);
            }
        }
    }

    private void carryOut(String line) {
        Matcher typed = TYPED.matcher(line);
        Matcher call = CALL.matcher(line);
        if (line.equals(NEW_BOOK)) {
            book = new HymnEndings();
        } else if (typed.matches()) {
            Books.type(book, typed.group(1));
        } else if (call.matches()) {
            CHECK.is(call.group(1), Calls.answer(book, call.group(1)), call.group(3));
            called.add(call.group(2));
        } else {
            CHECK.is("a line that is no call", line, "");
        }
    }
}
