import java.lang.reflect.Field;
import java.lang.reflect.Method;
import java.lang.reflect.Modifier;
import java.nio.charset.StandardCharsets;
import java.nio.file.Files;
import java.nio.file.Path;
import java.util.Arrays;
import java.util.Set;
import java.util.TreeSet;
import java.util.regex.Matcher;
import java.util.regex.Pattern;
import java.util.stream.Collectors;

/** The face is the document's and no more, and the source keeps to what LANGUAGE.md lets a test see. */
public final class FaceTest {
    private static final String FACE = "adds(int)int IndexOutOfBoundsException\n"
            + "back(int)int IndexOutOfBoundsException\n"
            + "best()int NoSuchElementException\n"
            + "book()int IllegalArgumentException\n"
            + "broken()int\n"
            + "can()boolean\n"
            + "cost(int)int IndexOutOfBoundsException NoSuchElementException\n"
            + "count(int)int\n"
            + "end(int)boolean\n"
            + "far()int\n"
            + "fault()int\n"
            + "feed(int,int,int,int,int)int\n"
            + "free(int,boolean)boolean IndexOutOfBoundsException\n"
            + "gate(int)void IndexOutOfBoundsException\n"
            + "given(int)int IndexOutOfBoundsException\n"
            + "keep()int\n"
            + "look(int,int)int IndexOutOfBoundsException NoSuchElementException\n"
            + "soil(int,int,int)void IndexOutOfBoundsException IllegalArgumentException\n"
            + "take()boolean\n"
            + "unlike(int,int)int IndexOutOfBoundsException\n"
            + "use(int,int,int)int IndexOutOfBoundsException IllegalArgumentException\n"
            + "worth()int\n"
            + "years(int)int IllegalArgumentException";

    public static void main(String[] args) throws Exception {
        Class<?> face = LandUses.class;
        Checks.due("the class is", Modifier.toString(face.getModifiers()), "public final");
        Checks.due("constructors", Arrays.toString(face.getDeclaredConstructors()), "[public LandUses()]");
        Checks.due("methods", publicMethods(face), FACE);
        for (Field field : face.getDeclaredFields()) {
            Checks.due("public field " + field.getName(), Modifier.isPrivate(field.getModifiers()),
                    !field.getName().equals("NONE"));
        }
        inside(face);
        source(Files.readString(Path.of("src/main/java/LandUses.java"), StandardCharsets.ISO_8859_1));
        Checks.finish();
    }

    private static String publicMethods(Class<?> face) {
        return Arrays.stream(face.getDeclaredMethods())
                .filter(m -> !Modifier.isPrivate(m.getModifiers()))
                .map(FaceTest::describe)
                .sorted()
                .collect(Collectors.joining("\n"));
    }

    private static String describe(Method m) {
        String parameters = Arrays.stream(m.getParameterTypes()).map(Class::getSimpleName)
                .collect(Collectors.joining(","));
        String exceptions = Arrays.stream(m.getExceptionTypes()).map(e -> " " + e.getSimpleName())
                .collect(Collectors.joining());
        return m.getName() + "(" + parameters + ")" + m.getReturnType().getSimpleName() + exceptions;
    }

    private static void inside(Class<?> face) {
        Set<String> names = new TreeSet<>();
        for (String line : FACE.split("\n")) {
            names.add(line.substring(0, line.indexOf('(')));
        }
        for (Method method : face.getDeclaredMethods()) {
            if (Modifier.isPrivate(method.getModifiers())) {
                Checks.due("a private method named " + method.getName(), names.contains(method.getName()), false);
            }
        }
        fieldsOf(face);
        Class<?>[] classes = face.getDeclaredClasses();
        Checks.due("at most eleven classes inside", classes.length <= 11, true);
        for (Class<?> inner : classes) {
            Checks.due(inner.getName() + " is static", Modifier.isStatic(inner.getModifiers()), true);
            fieldsOf(inner);
            for (Method method : inner.getDeclaredMethods()) {
                Checks.due(inner.getName() + " has " + method.getName(), names.contains(method.getName()), false);
                Checks.due(method.getName() + " has few parameters", method.getParameterCount() <= 7, true);
            }
        }
    }

    /** Static fields are constants, and there are not many others. */
    private static void fieldsOf(Class<?> type) {
        int own = 0;
        for (Field field : type.getDeclaredFields()) {
            if (Modifier.isStatic(field.getModifiers())) {
                boolean constant = Modifier.isFinal(field.getModifiers())
                        && (field.getType() == int.class || field.getType() == long.class);
                Checks.due(type.getName() + "." + field.getName() + " is a constant", constant, true);
            } else {
                own++;
            }
        }
        Checks.due("fields of " + type.getName() + ": " + own + ", at most twenty", own <= 20, true);
    }

    private static void source(String text) {
        for (String word : new String[] {"->", "::", "synchronized", "finally", "assert ", "Exact(", "static {",
            "try", "catch", "hashCode", "System.", "float", "double", "Object", "package "}) {
            Checks.due("the source holds " + word, text.contains(word), false);
        }
        Set<String> library = new TreeSet<>();
        Matcher matcher = Pattern.compile("\\b(?:Math|Integer|Long|String|System|Arrays|Character|Byte)\\.\\w+")
                .matcher(text);
        while (matcher.find()) {
            library.add(matcher.group());
        }
        Checks.due("of the library", library, Set.of("Math.max", "Math.min", "Integer.bitCount", "Long.bitCount"));
        Checks.due("signs 1 to 127 alone", text.chars().allMatch(c -> c > 0 && c < 128), true);
        for (String line : text.split("\n")) {
            if (line.startsWith("import ")) {
                Checks.due("import", line, "import java.util.NoSuchElementException;");
            }
        }
    }
}
