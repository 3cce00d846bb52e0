import java.io.IOException;
import java.lang.reflect.Field;
import java.lang.reflect.Method;
import java.lang.reflect.Modifier;
import java.nio.file.Files;
import java.nio.file.Path;
import java.util.ArrayList;
import java.util.Arrays;
import java.util.List;
import java.util.Set;
import java.util.regex.Matcher;
import java.util.regex.Pattern;

/** ../shared/LANGUAGE.md, as far as it can be seen from the class and from its text; each check names its rule. */
public final class LanguageTest {
    private static final Set<Class<?>> PLAIN = Set.of(int.class, long.class, boolean.class, String.class);
    private static final Pattern LIBRARY = Pattern.compile("\\b(Math|Long|Integer|String|System|Arrays|Float|Double)\\b(\\.\\w+)?");
    private static final Set<String> ALLOWED = Set.of("Math.max", "Math.min", "Math.abs", "Long.compare",
        "Long.numberOfLeadingZeros");
    private static final List<String> RULED_OUT = List.of("package", "import", "float", "double", "try", "catch", "throw",
        "finally", "synchronized", "assert", "native", "volatile", "transient", "var");

    private static Due due;

    public static void main(String[] args) throws IOException {
        due = new Due("LanguageTest");
        List<Class<?>> classes = new ArrayList<>(Arrays.asList(ServoDesk.class.getDeclaredClasses()));
        classes.add(ServoDesk.class);
        due.yes("rule 11: some twelve classes at most", classes.size() <= 12);
        for (Class<?> each : classes) {
            fields(each);
            methods(each);
        }
        text(Files.readString(Path.of(System.getProperty("main", "src/main/java/ServoDesk.java"))));
        due.end();
    }

    private static void fields(Class<?> owner) {
        int own = 0;
        for (Field field : owner.getDeclaredFields()) {
            Class<?> type = field.getType();
            if (!Modifier.isStatic(field.getModifiers())) {
                own++;
                due.yes("rule 2: an enum's field " + field, !owner.isEnum() || PLAIN.contains(type));
            } else if (!field.isSynthetic()) {
                Class<?> base = type.isArray() ? type.getComponentType() : type;
                due.yes("rule 5: " + field, Modifier.isFinal(field.getModifiers()) && (PLAIN.contains(base) || base.isEnum()));
            }
        }
        due.yes("rule 11: some twenty fields at most in " + owner, own <= 20);
    }

    private static void methods(Class<?> owner) {
        for (Method method : owner.getDeclaredMethods()) {
            due.yes("rule 11: seven parameters at most: " + method, method.getParameterCount() <= 7);
            due.no("rule 2: no lambda: " + method, method.getName().startsWith("lambda$"));
            due.same("rule 6: no exception is declared: " + method, method.getExceptionTypes().length, 0);
            due.no("rule 6: no equals, hashCode or toString: " + method,
                Set.of("equals", "hashCode", "toString").contains(method.getName()));
        }
    }

    private static void text(String source) {
        String code = source.replaceAll("(?s)/\\*.*?\\*/", " ").replaceAll("//[^\n]*", " ");
        for (String word : RULED_OUT) {
            due.no("not used here: " + word, Pattern.compile("\\b" + word + "\\b").matcher(code).find());
        }
        due.no("rule 2: no lambda, no method reference", code.contains("->") || code.contains("::"));
        due.no("rule 5: no static initialiser block", Pattern.compile("static\\s*\\{").matcher(code).find());
        for (Matcher used = LIBRARY.matcher(code); used.find();) {
            due.yes("rule 4: " + used.group(), ALLOWED.contains(used.group()));
        }
        due.same("rule 12: values() is kept once", code.split("\\.values\\(\\)", -1).length - 1, 1);
    }
}
