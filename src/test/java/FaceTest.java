import java.lang.reflect.Constructor;
import java.lang.reflect.Field;
import java.lang.reflect.Method;
import java.lang.reflect.Modifier;
import java.nio.file.Files;
import java.nio.file.Path;
import java.util.Arrays;
import java.util.Set;
import java.util.TreeSet;
import java.util.regex.Matcher;
import java.util.regex.Pattern;

/** The public face, and those rules of LANGUAGE.md that can be seen from outside or from the words of the source. */
public final class FaceTest {
    private static final String SOURCE = "src/main/java/GrowingCorners.java";
    private static final Set<String> METHODS = Set.of(
            "int box(int, int)", "int weight(int, int, int)", "int sheet(int, int, int)", "int drop(int)",
            "int item(int, int, int, int)", "int weights(int, int, int)", "int turn()", "int best(int, int)",
            "int between(int, int, int, int)", "int shape(int, int, int)", "int ways(int)", "long sums(int, int)",
            "int served(int, int)", "int line(int)", "int letter(int)", "int clear()", "int row(int)",
            "int place(int, int, int)", "int longest(int)", "int lay(int, int, int)", "int unlay()", "int back()",
            "int wordOf()", "long chance(int, int, int)");
    private static final Set<String> CONSTANTS =
            Set.of("BAD", "NOT", "FULL", "NONE", "NULL", "CAST", "INDEX", "SIZE");
    private static final Check check = new Check();

    public static void main(String[] args) throws Exception {
        constants();
        members();
        nestedClasses();
        source();
        check.end();
    }

    private static void constants() {
        check.due("BAD", GrowingCorners.BAD, -1);
        check.due("NOT", GrowingCorners.NOT, -2);
        check.due("FULL", GrowingCorners.FULL, -3);
        check.due("NONE", GrowingCorners.NONE, -4);
        check.due("NULL", GrowingCorners.NULL, -11);
        check.due("CAST", GrowingCorners.CAST, -12);
        check.due("INDEX", GrowingCorners.INDEX, -13);
        check.due("SIZE", GrowingCorners.SIZE, -14);
    }

    private static void members() {
        Class<?> type = GrowingCorners.class;
        check.holds("public", Modifier.isPublic(type.getModifiers()));
        check.holds("final", Modifier.isFinal(type.getModifiers()));
        Set<String> seen = new TreeSet<>();
        for (Method method : type.getDeclaredMethods()) {
            if (!Modifier.isPrivate(method.getModifiers())) {
                check.holds(method + " is public", Modifier.isPublic(method.getModifiers()));
                seen.add(told(method));
            }
        }
        check.holds("the methods of the document: " + seen, seen.equals(METHODS));
        Set<String> fields = new TreeSet<>();
        for (Field field : type.getDeclaredFields()) {
            if (!Modifier.isPrivate(field.getModifiers())) {
                fields.add(field.getName());
            }
            if (Modifier.isStatic(field.getModifiers())) {
                check.holds(field + " is final", Modifier.isFinal(field.getModifiers()));
            }
        }
        check.holds("the constants of the document: " + fields, fields.equals(CONSTANTS));
        Constructor<?>[] made = type.getDeclaredConstructors();
        check.holds("one public constructor", made.length == 1 && Modifier.isPublic(made[0].getModifiers())
                && made[0].getParameterCount() == 0);
    }

    private static String told(Method method) {
        String types = Arrays.toString(method.getParameterTypes());
        return method.getReturnType() + " " + method.getName() + "(" + types.substring(1, types.length() - 1) + ")";
    }

    private static void nestedClasses() {
        Set<String> publicNames = new TreeSet<>();
        for (String method : METHODS) {
            publicNames.add(method.substring(method.indexOf(' ') + 1, method.indexOf('(')));
        }
        for (Class<?> inside : GrowingCorners.class.getDeclaredClasses()) {
            int is = inside.getModifiers();
            check.holds(inside + " is static", Modifier.isStatic(is));
            check.holds(inside + " is not seen outside", !Modifier.isPublic(is) && !Modifier.isProtected(is));
            for (Method method : inside.getDeclaredMethods()) {
                check.holds(method + " bears a name of its own", !publicNames.contains(method.getName()));
            }
        }
    }

    private static void source() throws Exception {
        String text = Files.readString(Path.of(SOURCE))
                .replaceAll("(?s)/\\*.*?\\*/", " ").replaceAll("//[^\n]*", " ");
        String ruledOut = "\\b(throw|throws|try|catch|finally|synchronized|assert|package|Object|Exception|"
                + "Thread|Random|System\\.(?!arraycopy)\\w+|\\w+Exact|double|float|static\\s*\\{)\\b|->|::|\"";
        Matcher found = Pattern.compile(ruledOut).matcher(text);
        while (found.find()) {
            check.holds("the source has no " + found.group(), false);
        }
        Matcher imports = Pattern.compile("import\\s+([\\w.*]+)").matcher(text);
        while (imports.find()) {
            check.holds(imports.group(1) + " may be used",
                    Set.of("java.util.Arrays", "java.util.ArrayList", "java.util.List").contains(imports.group(1)));
        }
    }
}
