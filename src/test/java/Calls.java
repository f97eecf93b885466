import java.lang.reflect.InvocationTargetException;
import java.lang.reflect.Method;
import java.util.ArrayList;
import java.util.List;
import java.util.regex.Matcher;
import java.util.regex.Pattern;

/** Calls that are written as texts, as in DOC.md and README.md, are carried out on a book. */
final class Calls {
    private static final Pattern CALL = Pattern.compile("(\\w+)\\((.*)\\)");
    private static final Pattern VALUE = Pattern.compile("'(.)'|(true|false)|(-?\\d+)");

    private Calls() {
    }

    /** What the call answers, as a text, or "throws" and the name of the exception. */
    static String answer(HymnEndings book, String call) {
        Matcher matcher = CALL.matcher(call);
        if (!matcher.matches()) {
            return "no call: " + call;
        }
        List<Object> values = valuesOf(matcher.group(2));
        for (Method method : HymnEndings.class.getMethods()) {
            if (method.getName().equals(matcher.group(1)) && method.getParameterCount() == values.size()) {
                return answer(book, method, values);
            }
        }
        return "no such method: " + call;
    }

    private static List<Object> valuesOf(String text) {
        List<Object> values = new ArrayList<>();
        Matcher matcher = VALUE.matcher(text);
        while (matcher.find()) {
            if (matcher.group(1) != null) {
                values.add(matcher.group(1).charAt(0));
            } else {
                values.add(matcher.group(2) != null ? Boolean.valueOf(matcher.group()) : Integer.valueOf(matcher.group()));
            }
        }
        return values;
    }

    private static String answer(HymnEndings book, Method method, List<Object> values) {
        try {
            return String.valueOf(method.invoke(book, values.toArray()));
        } catch (InvocationTargetException thrown) {
            return "throws " + thrown.getCause().getClass().getSimpleName();
        } catch (IllegalAccessException | IllegalArgumentException wrong) {
            return "cannot be called: " + wrong.getMessage();
        }
    }
}
