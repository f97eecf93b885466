import java.io.IOException;
import java.nio.file.Files;
import java.nio.file.Path;
import java.util.List;
import java.util.regex.Matcher;
import java.util.regex.Pattern;

/** The rules of LANGUAGE.md that can be seen in the text of the class. */
public final class LanguageTest {
    private static final Check CHECK = new Check("LanguageTest");
    private static final Path SOURCE = Path.of("src/main/java/HymnEndings.java");

    /** Each with the number of its rule. */
    private static final String[][] RULED_OUT = {
        {"1", "\\bpackage\\b"}, {"1", "\\bprotected\\b"}, {"2", "->"}, {"2", "::"}, {"4", "\\w+Exact\\b"},
        {"5", "\\bstatic\\s*\\{"}, {"5", "\\bstatic\\s+(?!final\\b)[\\w\\[\\]]+\\s+\\w+\\s*[=;]"},
        {"6", "\\btry\\b"}, {"6", "\\bcatch\\b"}, {"6", "\\bfinally\\b"}, {"6", "\\bassert\\b"},
        {"6", "\\bsynchronized\\b"}, {"6", "\\b(equals|hashCode|toString)\\b"}, {"6", "\\bextends\\b"},
        {"9", "while\\s*\\(true\\)"}, {"9", "for\\s*\\(\\s*;"}, {"9", "\\bdo\\s*\\{"}, {"10", "\"\\s*\\+|\\+\\s*\""},
        {"3", "\\bMath\\.(sqrt|floor|ceil|pow|round)\\b"}, {"4", "\\bjava\\.(?!util\\.NoSuchElementException;)"},
        {"13", "\\bSystem\\.(?!arraycopy\\b)"}, {"13", "\\bThread\\b"}, {"13", "\\bRandom\\b"}};

    private static final Pattern METHOD = Pattern.compile(
            "^ {4,8}(?:public |private |static |final )*[\\w\\[\\]]+ \\w+\\(([^)]*)\\)[^;{]*\\{$");

    public static void main(String[] args) throws IOException {
        String source = Files.readString(SOURCE);
        String code = source.replaceAll("/\\*\\*[^*]*\\*/", "").replaceAll("//[^\n]*", "");
        for (String[] rule : RULED_OUT) {
            Matcher matcher = Pattern.compile(rule[1]).matcher(code);
            CHECK.is("rule " + rule[0] + ", " + rule[1], matcher.find() ? matcher.group() : "", "");
        }
        CHECK.is("imports", code.split("\\bimport\\b").length - 1, 1);
        CHECK.is("only signs from 1 to 127", source.chars().allMatch(sign -> sign > 0 && sign < 128), true);
        methods(Files.readAllLines(SOURCE));
        CHECK.finish();
    }

    private static void methods(List<String> lines) {
        int found = 0;
        for (int start = 0; start < lines.size(); start++) {
            Matcher matcher = METHOD.matcher(lines.get(start));
            if (matcher.matches()) {
                found++;
                int parameters = matcher.group(1).isEmpty() ? 0 : matcher.group(1).split(",").length;
                CHECK.is("rule 11, at most seven parameters: " + lines.get(start), parameters <= 7, true);
                CHECK.is("rule 11, short: " + lines.get(start), length(lines, start) <= 60, true);
            }
        }
        CHECK.is("methods were found", found > 100, true);
    }

    private static int length(List<String> lines, int start) {
        String indent = lines.get(start).replaceAll("\\S.*", "");
        int end = start;
        while (end < lines.size() && !lines.get(end).equals(indent + "}")) {
            end++;
        }
        return end - start + 1;
    }
}
