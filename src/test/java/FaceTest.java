import java.lang.reflect.Constructor;
import java.lang.reflect.Field;
import java.lang.reflect.Method;
import java.lang.reflect.Modifier;
import java.nio.file.Files;
import java.nio.file.Path;
import java.util.ArrayList;
import java.util.Collections;
import java.util.HashSet;
import java.util.List;
import java.util.Set;

/** The public face, and the rules of LANGUAGE.md that can be seen from outside or from the text. */
final class FaceTest {
    private static final String[] FACE = {
        "public boolean hangsTogether()",
        "public boolean isWarpOnTop(int,int) throws IndexOutOfBoundsException",
        "public boolean setRising(boolean)",
        "public double warpShare()",
        "public int colour(int,int) throws IndexOutOfBoundsException",
        "public int colourAt(int) throws IndexOutOfBoundsException",
        "public int count(boolean)",
        "public int cut(boolean,int) throws IllegalArgumentException",
        "public int differences()",
        "public int draw(int) throws IllegalArgumentException",
        "public int end(int,int) throws IndexOutOfBoundsException",
        "public int fit() throws IllegalStateException",
        "public int floats(boolean,int) throws IllegalArgumentException",
        "public int layers()",
        "public int longestFloat(boolean,boolean)",
        "public int period(boolean)",
        "public int pick(int,int) throws IndexOutOfBoundsException",
        "public int repeat(boolean) throws IllegalStateException",
        "public int reverse(boolean)",
        "public int rotate(boolean,int) throws IllegalArgumentException",
        "public int row(long) throws IllegalStateException,IllegalArgumentException",
        "public int thread(int,int) throws IllegalArgumentException,IllegalStateException",
        "public int threadsOf(int) throws IndexOutOfBoundsException",
        "public int tie(int,int) throws IndexOutOfBoundsException,IllegalArgumentException",
        "public int tread(int,int) throws IllegalArgumentException,IllegalStateException",
        "public long digest()",
    };
    private static final String[] RULED_OUT = {
        "->", "::", "Exact(", "finally", "synchronized", "assert", "package ", "java.util.*",
        "protected ", "@", "Object ", "Math.random", "System.nanoTime", "System.currentTimeMillis", "ArithmeticException",
        "NullPointerException", "ArrayIndexOutOfBounds", "ClassCastException", "NegativeArraySize", "ArrayStoreException",
    };

    private FaceTest() {
    }

    public static void main(String[] args) throws Exception {
        face();
        names();
        source(Files.readString(Path.of(args[0], "src/main/java/LoomDraft.java")));
        Check.finish(FaceTest.class);
    }

    private static void face() {
        Class<?> type = LoomDraft.class;
        Check.same("public and final", Modifier.toString(type.getModifiers()), "public final");
        List<String> found = new ArrayList<>();
        for (Method method : type.getDeclaredMethods()) {
            if (!Modifier.isPrivate(method.getModifiers())) {
                found.add(method.toGenericString().replace("java.lang.", "").replace("LoomDraft.", ""));
            }
        }
        Collections.sort(found);
        Check.same("face", found, List.of(FACE));
        for (Constructor<?> constructor : type.getDeclaredConstructors()) {
            Check.same("constructor", constructor.toGenericString(), "public LoomDraft()");
        }
        for (Field field : type.getDeclaredFields()) {
            int modifiers = field.getModifiers();
            Check.same("private field " + field, Modifier.isPrivate(modifiers), true);
            Check.same("final if static " + field, !Modifier.isStatic(modifiers) || Modifier.isFinal(modifiers), true);
        }
        for (Class<?> inside : type.getDeclaredClasses()) {
            Check.same("static " + inside, Modifier.isStatic(inside.getModifiers()), true);
            Check.same("not public " + inside, Modifier.isPublic(inside.getModifiers()), false);
        }
    }

    /** No private method bears the name of a public one, in the classes inside neither. */
    private static void names() {
        Set<String> names = new HashSet<>();
        for (Method method : LoomDraft.class.getMethods()) {
            names.add(method.getName());
        }
        List<Class<?>> types = new ArrayList<>(List.of(LoomDraft.class.getDeclaredClasses()));
        types.add(LoomDraft.class);
        for (Class<?> type : types) {
            for (Method method : type.getDeclaredMethods()) {
                boolean isFree = Modifier.isPublic(method.getModifiers()) || !names.contains(method.getName());
                Check.same("name of " + method, isFree, true);
            }
        }
    }

    private static void source(String text) {
        String code = text.replaceAll("(?s)/\\*.*?\\*/", "").replaceAll("//[^\n]*", "");
        for (String word : RULED_OUT) {
            Check.same("the source holds '" + word + "'", code.contains(word), false);
        }
        Check.same("signs 1 to 127 alone", text.chars().allMatch(sign -> sign > 0 && sign < 128), true);
    }
}
