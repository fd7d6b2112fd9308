import java.lang.reflect.InvocationTargetException;
import java.lang.reflect.Method;
import java.util.ArrayList;
import java.util.Arrays;
import java.util.Comparator;
import java.util.List;
import java.util.function.Supplier;

/** What the tests written by hand share: checks that are counted, objects to begin with, and all that can be seen. */
abstract class Checks {
    static final Class<? extends RuntimeException> OUT = IndexOutOfBoundsException.class;
    static final Class<? extends RuntimeException> BAD = IllegalArgumentException.class;
    static final Class<? extends RuntimeException> NOT = IllegalStateException.class;
    static final int COMPLETION = 0, HOVER = 1, DEFINITION = 2, TOKENS = 3, RENAME = 4, EXTRACT = 5;
    static final int FACE = 128512;
    static final int Z = 'z';

    private static int wrong = 0;
    private static int checks = 0;
    private static String current = "";

    // ---- checks

    static void run(String name, Runnable test) {
        current = name;
        try {
            test.run();
        } catch (RuntimeException e) {
            wrong++;
            System.out.println(name + ", line " + line(e) + ": stopped by " + e + " at " + e.getStackTrace()[0]);
        }
    }

    /** Runs the tests of a class that are for a sentence of the document, each by itself. */
    static void runSentences(Class<? extends Checks> of) {
        Method[] methods = of.getDeclaredMethods();
        Arrays.sort(methods, Comparator.comparing(Method::getName));
        for (Method test : methods) {
            if (test.isAnnotationPresent(Sentence.class)) {
                int before = checks;
                run(test.getName() + " (" + test.getAnnotation(Sentence.class).value() + ")", () -> call(test));
                if (checks == before) {
                    report("checked nothing");
                }
            }
        }
    }

    private static void call(Method test) {
        try {
            test.invoke(null);
        } catch (InvocationTargetException e) {
            if (e.getCause() instanceof RuntimeException thrown) {
                throw thrown;
            }
            throw new IllegalStateException(e.getCause());
        } catch (IllegalAccessException e) {
            throw new IllegalStateException(e);
        }
    }

    static void finish(String of) {
        System.out.println(of + ": " + checks + " checks, " + wrong + " wrong");
        System.exit(wrong == 0 && checks > 0 ? 0 : 1);
    }

    static void due(Object got, Object want) {
        checks++;
        if (!got.equals(want)) {
            report("answered " + got + ", due is " + want);
        }
    }

    static void throwsJust(Class<? extends RuntimeException> due, Runnable call) {
        checks++;
        try {
            call.run();
            report("threw nothing, due is " + due);
        } catch (RuntimeException e) {
            if (e.getClass() != due) {
                report("threw " + e + ", due is " + due);
            } else if (!e.getStackTrace()[0].getClassName().startsWith("ToolPlex")) {
                // an IndexOutOfBoundsException of a list begins in the library: that is not thrown on purpose
                report("was hit by " + e + " at " + e.getStackTrace()[0]);
            }
        }
    }

    /** The call throws just that, and all that can be seen is as before. */
    static void refused(ToolPlex x, Class<? extends RuntimeException> due, Runnable call) {
        String before = all(x);
        throwsJust(due, call);
        checks++;
        String after = all(x);
        if (!after.equals(before)) {
            report("changed what can be seen, from\n" + before + "\nto\n" + after);
        }
    }

    private static void report(String what) {
        wrong++;
        System.out.println(current + ", line " + line(new Throwable()) + ": " + what);
    }

    /** The line of the test itself, which is the first one outside this class. */
    private static int line(Throwable at) {
        for (StackTraceElement frame : at.getStackTrace()) {
            if (frame.getClassName().endsWith("Test")) {
                return frame.getLineNumber();
            }
        }
        return 0;
    }

    // ---- objects to begin with

    /** Files "a", "b" and so on, of the language 0, with texts. */
    static ToolPlex plex(String... texts) {
        ToolPlex x = new ToolPlex();
        for (int f = 0; f < texts.length; f++) {
            x.file('a' + f, 0);
            for (int code : texts[f].codePoints().toArray()) {
                x.store(f, code);
            }
        }
        return x;
    }

    /** One server for all kinds and languages, and the file 0, which the editor 0 has open. */
    static ToolPlex opened(int style, String text) {
        ToolPlex x = plex(text);
        x.server(63, 7, style);
        x.open(0, 0);
        x.deliverAll();
        return x;
    }

    /** Has the first servers answer all that they were asked. */
    static void answers(ToolPlex x, int servers) {
        x.deliverAll();
        for (int s = 0; s < servers; s++) {
            for (int i = 0; i < 80; i++) {
                try {
                    x.answer(s, 0);
                } catch (IndexOutOfBoundsException e) {
                    break;
                }
            }
        }
        x.deliverAll();
    }

    /** A request of the editor 0 for the file 0, which the first servers answer at once. */
    static int ask(ToolPlex x, int servers, int kind, int line, int unit) {
        int request = x.request(0, kind, 0, line, unit, Z);
        answers(x, servers);
        return request;
    }

    // ---- what can be seen

    static int at(int file, int line, int unit, int units) {
        return ((file * 128 + line) * 128 + unit) * 128 + units;
    }

    static String text(ToolPlex x, int whose, int file) {
        StringBuilder units = new StringBuilder();
        for (int i = 0; i < 101; i++) {
            try {
                units.append(x.unit(whose, file, i));
            } catch (IndexOutOfBoundsException e) {
                return units.toString();
            }
        }
        return units.toString();
    }

    static List<Integer> items(ToolPlex x, int editor, int request) {
        List<Integer> items = new ArrayList<>();
        for (int i = 0; i < x.standing(editor, request) / 10; i++) {
            items.add(x.item(editor, request, i));
        }
        return items;
    }

    static List<Integer> values(ToolPlex x, int editor, int request) {
        List<Integer> values = new ArrayList<>();
        for (int i = 0; i < x.standing(editor, request) / 10; i++) {
            values.add(x.value(editor, request, i));
        }
        return values;
    }

    static List<Integer> tokens(ToolPlex x, int editor, int request) {
        List<Integer> numbers = new ArrayList<>();
        for (int i = 0; i < x.standing(editor, request) / 10 * 4; i++) {
            numbers.add(x.token(editor, request, i));
        }
        return numbers;
    }

    static List<Integer> shownFaults(ToolPlex x, int editor, int file) {
        List<Integer> faults = new ArrayList<>();
        for (int i = 0; i < x.faults(editor, file); i++) {
            faults.add(x.fault(editor, file, i));
        }
        return faults;
    }

    /** All that can be seen of an object by calls that change nothing. */
    static String all(ToolPlex x) {
        StringBuilder seen = new StringBuilder();
        for (int c = 0; c < 10; c++) {
            seen.append(x.waiting(c)).append(' ');
        }
        for (int f = 0; f <= 6; f++) {
            int file = f;
            if (told(() -> x.name(file)) instanceof String) {
                break;
            }
            seen.append("\nfile ").append(told(() -> x.name(file))).append(told(() -> x.agree(file)));
            for (int w = 0; w < 6; w++) {
                int whose = w;
                seen.append(' ').append(told(() -> x.version(whose, file))).append(text(x, whose, file));
            }
            seen.append(told(() -> shownFaults(x, 0, file))).append(told(() -> shownFaults(x, 1, file)));
        }
        for (int e = 0; e < 2; e++) {
            for (int r = 0; r <= 40; r++) {
                int editor = e;
                int request = r;
                Object standing = told(() -> x.standing(editor, request));
                if (standing.equals("IndexOutOfBoundsException")) {
                    break;
                }
                seen.append("\nrequest ").append(standing);
                seen.append(told(() -> items(x, editor, request))).append(told(() -> values(x, editor, request)));
                seen.append(told(() -> tokens(x, editor, request)));
                for (int s = 0; s < 3; s++) {
                    int server = s;
                    seen.append(' ').append(told(() -> x.id(editor, request, server)));
                }
            }
        }
        return seen.toString();
    }

    /** What a call answers, or the name of what it throws. */
    static Object told(Supplier<Object> call) {
        try {
            return call.get();
        } catch (RuntimeException e) {
            return e.getClass().getSimpleName();
        }
    }
}
