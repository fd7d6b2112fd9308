import java.lang.reflect.InvocationTargetException;
import java.lang.reflect.Method;
import java.util.ArrayList;
import java.util.HashMap;
import java.util.List;
import java.util.Map;
import java.util.Random;
import java.util.TreeMap;

/**
 * Runs of 512 chance calls (always the same ones) on ToolPlex and on Model: every call must answer alike,
 * with just the same exception, and at the end of a run all that can be seen must be alike.
 * Arguments: the number of runs, and the seed of the first one.
 */
public final class RandomRunsTest {
    private static final int CALLS = 512;
    private static final String LETTERS = "aaabbcz";
    private static final int[] ODD = {-1, 0, 1, 2, 3, 5, 6, 7, 10, 40, 64, 97, 123, 1000, 1001, 128512,
        128592, Integer.MAX_VALUE, Integer.MIN_VALUE};
    private static final Map<String, Method> TOLD = methods(ToolPlex.class);
    private static final Map<String, Method> DUE = methods(Model.class);

    private final TreeMap<String, Integer> answers = new TreeMap<>();
    private final List<String> row = new ArrayList<>();
    private Random random;
    private ToolPlex plex;
    private Model model;
    private String wrong;

    public static void main(String[] args) {
        int runs = args.length > 0 ? Integer.parseInt(args[0]) : 2000;
        int seed = args.length > 1 ? Integer.parseInt(args[1]) : 1;
        RandomRunsTest test = new RandomRunsTest();
        for (int i = seed; i < seed + runs; i++) {
            String wrong = test.run(i);
            if (wrong != null) {
                System.out.println("run " + i + ":\n" + wrong);
                System.exit(1);
            }
        }
        if (args.length > 2) {
            test.answers.forEach((what, count) -> System.out.println(what + " " + count));
        }
        System.out.println("RandomRunsTest: " + runs + " runs are alike");
    }

    private static Map<String, Method> methods(Class<?> of) {
        Map<String, Method> found = new HashMap<>();
        for (Method m : of.getDeclaredMethods()) {
            if (!java.lang.reflect.Modifier.isStatic(m.getModifiers())
                    && !java.lang.reflect.Modifier.isPrivate(m.getModifiers())) {
                found.put(m.getName(), m);
            }
        }
        return found;
    }

    private static Object answerOf(Object target, Method method, int[] args) {
        Object[] boxed = new Object[args.length];
        for (int i = 0; i < args.length; i++) {
            boxed[i] = args[i];
        }
        try {
            Object answer = method.invoke(target, boxed);
            return answer == null ? "nothing" : answer;
        } catch (InvocationTargetException e) {
            Throwable thrown = e.getCause();
            // an IndexOutOfBoundsException of a list begins in the library: that is not thrown on purpose
            boolean own = thrown.getStackTrace()[0].getClassName().equals(target.getClass().getName());
            return (own ? "throws." : "is hit by ") + thrown.getClass().getSimpleName();
        } catch (IllegalAccessException e) {
            throw new IllegalStateException(e);
        }
    }

    private Object call(String name, int... args) {
        Object told = answerOf(plex, TOLD.get(name), args);
        Object due = answerOf(model, DUE.get(name), args);
        StringBuilder text = new StringBuilder(name).append('(');
        for (int i = 0; i < args.length; i++) {
            text.append(i > 0 ? ", " : "").append(args[i]);
        }
        row.add(text.append(") ").append(told).toString());
        if (!told.equals(due) && wrong == null) {
            wrong = String.join("\n", row) + "\n  due is " + due;
        }
        return told;
    }

    private String run(int seed) {
        random = new Random(seed);
        plex = new ToolPlex();
        model = new Model();
        row.clear();
        wrong = null;
        setUp();
        int[] weights = weights();
        int rounds = random.nextInt(30);
        while (row.size() < CALLS && wrong == null) {
            if (chance(rounds)) {
                round();
            } else {
                step(weights);
            }
        }
        look();
        return wrong;
    }

    private boolean chance(int percent) {
        return random.nextInt(100) < percent;
    }

    private int some(int bound) {
        return chance(1) ? ODD[random.nextInt(ODD.length)] : random.nextInt(bound);
    }

    private int code() {
        int which = random.nextInt(20);
        if (which < 9) {
            return LETTERS.charAt(random.nextInt(LETTERS.length()));
        }
        if (which < 12) {
            return "0129".charAt(random.nextInt(4));
        }
        if (which < 16) {
            return ' ';
        }
        return which < 18 ? '\n' : 128512 + random.nextInt(3);
    }

    private void setUp() {
        int files = 1 + random.nextInt(5);
        for (int i = 0; i < files; i++) {
            call("file", 97 + random.nextInt(5), chance(80) ? 0 : random.nextInt(3));
        }
        int length = random.nextInt(25);
        for (int f = 0; f < files; f++) {
            for (int i = random.nextInt(length + 1); i < length; i++) {
                call("store", f, code());
            }
        }
        int servers = random.nextInt(20) == 0 ? 0 : 1 + random.nextInt(3);
        for (int i = 0; i < servers; i++) {
            call("server", chance(70) ? 63 : random.nextInt(64), chance(70) ? 7 : random.nextInt(8), random.nextInt(3));
        }
        for (int f = 0; f < files; f++) {
            if (chance(70)) {
                call("open", chance(70) ? 0 : 1, f);
            }
        }
    }

    private int[] weights() {
        int[] weights = {1, 3, 1, 6, 5, 25, 30, 3, 8, 25, 10, 2, 2, 40, 8, 20};
        for (int i = 0; i < weights.length; i++) {
            if (chance(40)) {
                weights[i] = weights[i] * random.nextInt(5) / 2;
            }
        }
        weights[13] += 5;
        return weights;
    }

    private void step(int[] weights) {
        int total = 0;
        for (int w : weights) {
            total += w;
        }
        int pick = random.nextInt(total);
        int which = 0;
        while (pick >= weights[which]) {
            pick -= weights[which];
            which++;
        }
        int editor = some(2);
        int file = some(model.files.size() + 1);
        int server = some(model.servers.size() + 1);
        int asked = editor == 0 || editor == 1 ? model.editors[editor].requests.size() : 0;
        int request = asked == 0 ? some(2) : Math.max(0, asked - 1 - random.nextInt(6));
        switch (which) {
            case 0 -> call("file", 97 + some(8), some(3));
            case 1 -> call("store", file, chance(97) ? code() : ODD[random.nextInt(ODD.length)]);
            case 2 -> call("server", some(64), some(8), some(3));
            case 3 -> call("open", editor, file);
            case 4 -> call("close", editor, file);
            case 5 -> change(editor, file);
            case 6 -> call("request", editor, some(6), file, some(3), some(14), 97 + some(8));
            case 7 -> call("cancel", editor, request);
            case 8 -> apply(editor, request);
            case 9 -> call("answer", server, chance(80) ? 0 : some(3));
            case 10 -> call("tellFaults", server, file);
            case 11 -> call("crash", server);
            case 12 -> call("start", server);
            case 13 -> call("deliver", some(10));
            case 14 -> call("deliverAll");
            default -> peek(editor, file, server, request);
        }
    }

    /** A request that is brought to its end, mostly, with something in between, sometimes. */
    private void round() {
        List<int[]> open = new ArrayList<>();
        for (int f = 0; f < model.files.size(); f++) {
            if (model.files.get(f).holder >= 0) {
                open.add(new int[] {model.files.get(f).holder, f});
            }
        }
        if (open.isEmpty()) {
            call("open", random.nextInt(2), some(model.files.size()));
            return;
        }
        int[] at = open.get(random.nextInt(open.size()));
        int kind = random.nextInt(6);
        if (chance(70)) {
            call("deliverAll");
        }
        call("request", at[0], kind, at[1], random.nextInt(3), random.nextInt(10), 97 + random.nextInt(8));
        between(at);
        for (int s = 0; s < model.servers.size(); s++) {
            for (int left = model.servers.get(s).asked.size(); left > 0 && chance(90); left--) {
                call("answer", s, chance(80) ? 0 : random.nextInt(left));
                between(at);
            }
            if (chance(30)) {
                call("tellFaults", s, at[1]);
            }
        }
        call("deliverAll");
        if (kind >= 4 && chance(60)) {
            apply(at[0], 0);
        }
    }

    private void between(int[] at) {
        if (chance(80)) {
            call("deliverAll");
        }
        if (chance(10)) {
            change(at[0], at[1]);
        }
        if (chance(3)) {
            call(chance(50) ? "crash" : "start", random.nextInt(3));
        }
        if (chance(20)) {
            call("deliver", random.nextInt(10));
        }
    }

    private void change(int editor, int file) {
        int line = some(3);
        int unit = some(14);
        int toLine = chance(80) ? line : some(4);
        int toUnit = toLine == line && chance(90) ? unit + some(4) : some(14);
        call("change", editor, file, line, unit, toLine, toUnit, chance(30) ? -1 : code());
    }

    /** Applies one of the edits that are shown, if there is one. */
    private void apply(int editor, int request) {
        for (int e = 0; e < 2; e++) {
            for (int r = 0; r < model.editors[e].requests.size(); r++) {
                Model.Request asked = model.editors[e].requests.get(r);
                if (asked.kind >= 4 && asked.standing == Model.SHOWN && !asked.items.isEmpty()) {
                    count("apply", asked.kind, call("apply", e, r));
                    return;
                }
            }
        }
        call("apply", editor, request);
    }

    private void peek(int editor, int file, int server, int request) {
        switch (random.nextInt(12)) {
            case 0 -> call("name", file);
            case 1 -> call("waiting", some(10));
            case 2 -> call("version", some(6), file);
            case 3 -> call("unit", some(6), file, some(20));
            case 4 -> call("agree", file);
            case 5 -> call("standing", editor, request);
            case 6 -> call("item", editor, request, some(3));
            case 7 -> call("value", editor, request, some(3));
            case 8 -> call("token", editor, request, some(12));
            case 9 -> call("id", editor, request, server);
            case 10 -> call("faults", editor, file);
            default -> call("fault", editor, file, some(3));
        }
    }

    /** Compares all that can be seen. */
    private void look() {
        for (int c = -1; c <= 10; c++) {
            call("waiting", c);
        }
        for (int f = -1; f <= model.files.size(); f++) {
            call("name", f);
            call("agree", f);
            for (int w = -1; w <= 6; w++) {
                call("version", w, f);
                Object unit = call("unit", w, f, 0);
                for (int p = 1; unit instanceof Character && p <= 101; p++) {
                    unit = call("unit", w, f, p);
                }
            }
            for (int e = -1; e <= 2; e++) {
                Object count = call("faults", e, f);
                for (int i = -1; i <= (count instanceof Integer n ? n : 0); i++) {
                    call("fault", e, f, i);
                }
            }
        }
        for (int e = 0; e < 2; e++) {
            for (int r = -1; r <= model.editors[e].requests.size(); r++) {
                lookAt(e, r);
            }
        }
    }

    private void lookAt(int editor, int request) {
        Object standing = call("standing", editor, request);
        int items = standing instanceof Integer n ? n / 10 : 0;
        if (request >= 0 && request < model.editors[editor].requests.size()) {
            count("standing", model.editors[editor].requests.get(request).kind, standing);
        }
        for (int s = -1; s <= model.servers.size(); s++) {
            call("id", editor, request, s);
        }
        for (int i = -1; i <= items; i++) {
            call("item", editor, request, i);
            call("value", editor, request, i);
        }
        for (int i = -1; i <= 4 * items; i++) {
            call("token", editor, request, i);
        }
    }

    private void count(String what, int kind, Object answer) {
        answers.merge(what + " of " + kind + ": " + answer, 1, Integer::sum);
    }
}
