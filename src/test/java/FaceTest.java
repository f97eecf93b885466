import java.io.IOException;
import java.lang.reflect.Constructor;
import java.lang.reflect.Field;
import java.lang.reflect.Method;
import java.lang.reflect.Modifier;
import java.util.Arrays;
import java.util.HashSet;
import java.util.Set;
import java.util.TreeSet;
import java.util.regex.Matcher;
import java.util.regex.Pattern;
import java.util.stream.Collectors;

/** The public face is the document's, to the last exception, and nothing else can be seen from outside. */
public final class FaceTest {
    private static final Check CHECK = new Check("FaceTest");
    private static final Pattern METHOD = Pattern.compile("public (\\w+ \\w+)\\((.*)\\)(?: throws (.*))?;");

    public static void main(String[] args) throws IOException {
        Class<?> face = HymnEndings.class;
        CHECK.is("modifiers", Modifier.toString(face.getModifiers()), "public final");
        CHECK.is("super class", face.getSuperclass().getName(), "java.lang.Object");
        CHECK.is("interfaces", face.getInterfaces().length, 0);
        Constructor<?>[] constructors = face.getDeclaredConstructors();
        CHECK.is("constructors", constructors.length, 1);
        CHECK.is("constructor", constructors[0].toString(), "public HymnEndings()");
        Set<String> due = faceOfTheDocument();
        CHECK.is("methods of the document", due.size(), 39);
        methods(face, due);
        fields(face);
        nested(face);
        CHECK.finish();
    }

    /** Its methods, as in "int cut(int) UnsupportedOperationException". */
    private static Set<String> faceOfTheDocument() throws IOException {
        Set<String> methods = new TreeSet<>();
        for (String line : Document.allLines()) {
            Matcher matcher = METHOD.matcher(line.trim());
            if (matcher.matches()) {
                String types = matcher.group(2).replaceAll(" \\w+(?=,|$)", "").replace(" ", "");
                String exceptions = matcher.group(3) == null ? "" : matcher.group(3).replace(" ", "");
                methods.add(matcher.group(1) + "(" + types + ") " + exceptions);
            }
        }
        return methods;
    }

    private static void methods(Class<?> face, Set<String> due) {
        Set<String> found = new TreeSet<>();
        Set<String> publicNames = new HashSet<>();
        for (Method method : face.getDeclaredMethods()) {
            if (!Modifier.isPrivate(method.getModifiers())) {
                found.add(told(method));
                publicNames.add(method.getName());
                CHECK.is("modifiers of " + method.getName(), Modifier.toString(method.getModifiers()), "public");
            }
        }
        CHECK.is("methods", String.join("\n", found), String.join("\n", due));
        for (Class<?> owner : face.getDeclaredClasses()) {
            noneHasNameOf(publicNames, owner);
        }
        noneHasNameOf(publicNames, face);
    }

    private static void noneHasNameOf(Set<String> publicNames, Class<?> owner) {
        for (Method method : owner.getDeclaredMethods()) {
            if (!Modifier.isPublic(method.getModifiers())) {
                CHECK.is(owner + " has a name of the face: " + method.getName(),
                        publicNames.contains(method.getName()), false);
            }
        }
    }

    private static String told(Method method) {
        return method.getReturnType().getSimpleName() + " " + method.getName()
                + Arrays.stream(method.getParameterTypes()).map(Class::getSimpleName)
                        .collect(Collectors.joining(",", "(", ") "))
                + Arrays.stream(method.getExceptionTypes()).map(Class::getSimpleName).collect(Collectors.joining(","));
    }

    private static void fields(Class<?> face) {
        for (Field field : face.getDeclaredFields()) {
            CHECK.is(field + " is private", Modifier.isPrivate(field.getModifiers()), true);
            if (Modifier.isStatic(field.getModifiers())) {
                CHECK.is(field + " is final", Modifier.isFinal(field.getModifiers()), true);
                CHECK.is(field + " is a number", field.getType().isPrimitive(), true);
            }
        }
    }

    private static void nested(Class<?> face) {
        CHECK.is("classes in the file are at most twelve", face.getDeclaredClasses().length < 12, true);
        for (Class<?> owner : face.getDeclaredClasses()) {
            CHECK.is(owner + " is private and static", Modifier.toString(owner.getModifiers()), "private static final");
            CHECK.is(owner + " has few fields", owner.getDeclaredFields().length <= 20, true);
        }
    }
}
