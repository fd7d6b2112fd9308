import java.io.IOException;
import java.lang.reflect.Constructor;
import java.lang.reflect.Field;
import java.lang.reflect.Method;
import java.lang.reflect.Modifier;
import java.nio.file.Files;
import java.nio.file.Path;
import java.util.Set;
import java.util.StringJoiner;
import java.util.TreeSet;
import java.util.regex.Matcher;
import java.util.regex.Pattern;

/** The public face of the class: just what the document writes under "The public face", and nothing else. */
public final class FaceTest {
    private static final Path DOCUMENT = Path.of("../shared/DOC.md");
    private static final Pattern FACE = Pattern.compile("## The public face\\s+```java\\n(.*?)```", Pattern.DOTALL);

    public static void main(String[] args) throws IOException {
        Matcher face = FACE.matcher(Files.readString(DOCUMENT));
        if (!face.find()) {
            System.out.println("FaceTest: the document has no face");
            System.exit(1);
        }
        Set<String> due = written(face.group(1));
        Set<String> told = declared();
        int all = due.size();
        Set<String> extra = new TreeSet<>(told);
        extra.removeAll(due);
        due.removeAll(told);
        due.forEach(line -> System.out.println("FaceTest: missing is " + line));
        extra.forEach(line -> System.out.println("FaceTest: not in the document is " + line));
        System.out.println("FaceTest: " + all + " lines, " + (due.size() + extra.size()) + " wrong");
        System.exit(due.isEmpty() && extra.isEmpty() && all > 1 ? 0 : 1);
    }

    /** The lines of the document, each constant on a line of its own, without the names of arguments. */
    private static Set<String> written(String face) {
        Set<String> lines = new TreeSet<>();
        for (String line : face.split("\n")) {
            String text = line.replaceAll("[;{}]", "").strip();
            if (text.contains("=")) {
                String head = text.substring(0, text.indexOf("int ") + 4);
                for (String constant : text.substring(head.length()).split(",")) {
                    lines.add(head + constant.strip());
                }
            } else if (!text.isEmpty()) {
                lines.add(text.replaceAll("(int|char|boolean) \\w+(?=[,)])", "$1"));
            }
        }
        return lines;
    }

    /** The same of the class itself: all that is not private, but for the classes inside it. */
    private static Set<String> declared() {
        Set<String> lines = new TreeSet<>();
        lines.add(Modifier.toString(ToolPlex.class.getModifiers()) + " class ToolPlex");
        for (Field f : ToolPlex.class.getDeclaredFields()) {
            if (!Modifier.isPrivate(f.getModifiers())) {
                lines.add(Modifier.toString(f.getModifiers()) + " " + f.getType() + " " + f.getName() + " = " + value(f));
            }
        }
        for (Constructor<?> c : ToolPlex.class.getDeclaredConstructors()) {
            if (!Modifier.isPrivate(c.getModifiers())) {
                lines.add(signature(Modifier.toString(c.getModifiers()) + " ToolPlex", c.getParameterTypes(),
                        c.getExceptionTypes()));
            }
        }
        for (Method m : ToolPlex.class.getDeclaredMethods()) {
            if (!Modifier.isPrivate(m.getModifiers()) && !m.isSynthetic()) {
                String head = Modifier.toString(m.getModifiers()) + " " + m.getReturnType() + " " + m.getName();
                lines.add(signature(head, m.getParameterTypes(), m.getExceptionTypes()));
            }
        }
        return lines;
    }

    private static String signature(String head, Class<?>[] arguments, Class<?>[] thrown) {
        return head + "(" + names(arguments) + ")" + (thrown.length > 0 ? " throws " + names(thrown) : "");
    }

    private static String names(Class<?>[] types) {
        StringJoiner names = new StringJoiner(", ");
        for (Class<?> type : types) {
            names.add(type.getSimpleName());
        }
        return names.toString();
    }

    private static Object value(Field constant) {
        try {
            return constant.get(null);
        } catch (IllegalAccessException e) {
            return e;
        }
    }
}
