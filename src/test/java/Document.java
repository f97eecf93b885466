import java.io.IOException;
import java.nio.file.Files;
import java.nio.file.Path;
import java.util.ArrayList;
import java.util.LinkedHashMap;
import java.util.List;
import java.util.Map;

/** What it is, the terms and the promises of DOC.md, of which the tests quote the sentences that they test. */
final class Document {
    static final String WHAT_IT_IS = "What it is";
    static final String TERMS = "Terms";

    private static final Path DOC = Path.of("../shared/DOC.md");
    private final Map<String, StringBuilder> sections = new LinkedHashMap<>();
    private final Map<String, boolean[]> quoted = new LinkedHashMap<>();

    Document() throws IOException {
        String section = "";
        boolean isCode = false;
        for (String line : allLines()) {
            if (line.startsWith("```")) {
                isCode = !isCode;
            } else if (line.startsWith("## ")) {
                section = sectionOf(line);
            } else if (line.startsWith("Examples:")) {
                section = "";
            } else if (!isCode && !section.isEmpty() && !plain(line).isEmpty()) {
                sections.computeIfAbsent(section, name -> new StringBuilder()).append(plain(line)).append(' ');
            }
        }
        sections.forEach((name, text) -> quoted.put(name, new boolean[text.length()]));
    }

    static List<String> allLines() throws IOException {
        return Files.readAllLines(DOC);
    }

    /** The number of a promise, or the name of another section; "" for one that is not quoted. */
    private static String sectionOf(String heading) {
        String name = heading.replaceAll("^## (?:Promise (?=\\d))?|(?<=\\d): .*$", "");
        return name.matches("\\d+") || name.equals(WHAT_IT_IS) || name.equals(TERMS) ? name : "";
    }

    /** Without the heads of methods and paragraphs, and without the parameters of which no number is told. */
    private static String plain(String line) {
        boolean isPlainParameter = line.startsWith("- `") && !line.matches(".*\\d.*");
        return isPlainParameter ? "" : line.replaceAll("^`[^`]*\\([^`]*`: ", "").replaceAll("^- `[^`]*`: ", "")
                .replaceAll("^[A-Z][a-z]+\\. ", "").replace("`", "");
    }

    /** Whether the section says so; what it says counts as quoted then. */
    boolean says(String section, String words) {
        StringBuilder text = sections.getOrDefault(section, new StringBuilder());
        int start = text.indexOf(words);
        for (int index = start; start >= 0 && index < start + words.length(); index++) {
            quoted.get(section)[index] = true;
        }
        return start >= 0;
    }

    /** What the sections say that no test has quoted. */
    List<String> unquoted() {
        List<String> rests = new ArrayList<>();
        sections.forEach((name, text) -> {
            StringBuilder rest = new StringBuilder();
            for (int index = 0; index < text.length(); index++) {
                rest.append(quoted.get(name)[index] ? '|' : text.charAt(index));
            }
            String words = rest.toString().replaceAll("\\|+", "|").trim();
            if (words.matches(".*\\w.*")) {
                rests.add(name + ": " + words);
            }
        });
        return rests;
    }
}
