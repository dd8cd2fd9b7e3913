import java.lang.reflect.InvocationTargetException;
import java.lang.reflect.Method;
import java.lang.reflect.Modifier;
import java.nio.file.Files;
import java.nio.file.Path;
import java.util.HashMap;
import java.util.Map;
import java.util.Set;
import java.util.TreeSet;
import java.util.regex.Matcher;
import java.util.regex.Pattern;

/** The examples of README.md: each call, made in its order, answers what stands behind it. */
final class ReadmeTest {
    private static final Pattern MADE = Pattern.compile("LoomDraft (\\w+) = new LoomDraft\\(\\);");
    private static final Pattern CALL = Pattern.compile("(\\w+)\\.(\\w+)\\((.*)\\); *// ([^:]*)(: .*)?");

    private final Map<String, LoomDraft> drafts = new HashMap<>();
    private final Set<String> called = new TreeSet<>();

    private ReadmeTest() {
    }

    public static void main(String[] args) throws Exception {
        ReadmeTest test = new ReadmeTest();
        boolean isExample = false;
        for (String line : Files.readAllLines(Path.of(args[0], "README.md"))) {
            if (line.startsWith("```")) {
                isExample = line.equals("```java");
            } else if (isExample) {
                test.follow(line);
            }
        }
        Check.same("calls in the examples", test.called, face().keySet());
        Check.finish(ReadmeTest.class);
    }

    private void follow(String line) throws IllegalAccessException {
        Matcher made = MADE.matcher(line);
        Matcher call = CALL.matcher(line);
        if (made.matches()) {
            drafts.put(made.group(1), new LoomDraft());
        } else if (call.matches()) {
            called.add(call.group(2));
            Check.same(line, answer(call), call.group(4).strip());
        } else {
            Check.same(line, "neither a new draft nor a call with its answer", "one of both");
        }
    }

    private String answer(Matcher call) throws IllegalAccessException {
        LoomDraft draft = drafts.get(call.group(1));
        Method method = face().get(call.group(2));
        String[] told = call.group(3).isEmpty() ? new String[0] : call.group(3).split(", ");
        if (draft == null || method == null || told.length != method.getParameterCount()) {
            return "a call that does not compile";
        }
        Object[] given = new Object[told.length];
        for (int place = 0; place < told.length; place++) {
            given[place] = value(told[place], method.getParameterTypes()[place]);
        }
        try {
            return method.invoke(draft, given).toString();
        } catch (InvocationTargetException e) {
            return "throws " + e.getCause().getClass().getSimpleName();
        }
    }

    private static Object value(String told, Class<?> type) {
        if (type == boolean.class) {
            return told.equals("true");
        }
        long number = told.startsWith("0b") ? Long.parseLong(told.substring(2), 2) : Long.parseLong(told);
        if (type == int.class) {
            return (int) number;
        }
        return number;
    }

    private static Map<String, Method> face() {
        Map<String, Method> face = new HashMap<>();
        for (Method method : LoomDraft.class.getDeclaredMethods()) {
            if (Modifier.isPublic(method.getModifiers())) {
                face.put(method.getName(), method);
            }
        }
        return face;
    }
}
