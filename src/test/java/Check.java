import java.lang.reflect.InvocationTargetException;
import java.lang.reflect.Method;
import java.lang.reflect.Modifier;
import java.util.ArrayList;
import java.util.Comparator;
import java.util.List;
import java.util.function.Function;
import java.util.function.Supplier;

/** What the tests share: they say what is due, print what is not, and end with exit code 1 if anything was not. */
final class Check {
    static final Class<?> ARGUMENT = IllegalArgumentException.class;
    static final Class<?> STATE = IllegalStateException.class;
    static final Class<?> INDEX = IndexOutOfBoundsException.class;
    static final boolean[] BOTH = {true, false};

    private static String running = "";
    private static int tests = 0;
    private static int wrong = 0;
    private static int looked = 0;

    private Check() {
    }

    /** Runs the tests of a class: its void methods without parameters, each named after what it holds to. */
    static void runAll(Class<?> type) {
        List<Method> found = new ArrayList<>();
        for (Method method : type.getDeclaredMethods()) {
            if (isTest(method)) {
                found.add(method);
            }
        }
        found.sort(Comparator.comparing(Method::getName));
        for (Method method : found) {
            run(method);
        }
        finish(type);
    }

    private static boolean isTest(Method method) {
        return Modifier.isStatic(method.getModifiers()) && method.getParameterCount() == 0
            && method.getReturnType() == void.class && !method.isSynthetic();
    }

    private static void run(Method method) {
        tests++;
        same("the name " + method.getName(), method.getName().matches("(promise\\d\\d|terms|use)[A-Z].*"), true);
        running = method.getName() + ": ";
        try {
            method.setAccessible(true);
            method.invoke(null);
        } catch (InvocationTargetException e) {
            wrong++;
            System.out.println(running + "stopped by " + e.getCause());
        } catch (IllegalAccessException e) {
            wrong++;
            System.out.println(running + "could not be run");
        }
        running = "";
    }

    static void same(String what, Object got, Object due) {
        looked++;
        if (!got.equals(due)) {
            wrong++;
            System.out.println(running + what + " answered " + got + ", due is " + due);
        }
    }

    /** What a call answers: what it returns, or the class of what it throws. */
    static Object answer(Supplier<?> call) {
        try {
            return call.get();
        } catch (RuntimeException e) {
            return e.getClass();
        }
    }

    /** The call throws just this, and leaves its draft such that it answers all as an untouched one made alike. */
    static void refused(String call, Supplier<LoomDraft> made, Class<?> due, Function<LoomDraft, ?> asked) {
        LoomDraft draft = made.get();
        same(call, answer(() -> asked.apply(draft)), due);
        same(call + ", what it left", Drafts.allThatIsTold(draft), Drafts.allThatIsTold(made.get()));
    }

    /** The call is refused on each kind of draft: a new one, one with something of all, and a full one. */
    static void refusedEverywhere(String call, Class<?> due, Function<LoomDraft, ?> asked) {
        refused(call + " of a new one", LoomDraft::new, due, asked);
        refused(call + " of a filled one", Drafts::filled, due, asked);
        refused(call + " of a full one", Drafts::full, due, asked);
    }

    static void finish(Class<?> type) {
        System.out.println(type.getSimpleName() + ": " + (tests == 0 ? "" : tests + " tests, ") + looked
            + " answers looked at, " + wrong + " not as due");
        if (wrong != 0 || looked == 0) {
            System.exit(1);
        }
    }
}
