import java.lang.reflect.Constructor;
import java.lang.reflect.Field;
import java.lang.reflect.Method;
import java.lang.reflect.Modifier;
import java.nio.file.Files;
import java.nio.file.Path;
import java.util.ArrayList;
import java.util.Arrays;
import java.util.List;
import java.util.Map;
import java.util.Set;
import java.util.TreeMap;
import java.util.TreeSet;
import java.util.regex.Matcher;
import java.util.regex.Pattern;

/** The public face, and those rules of LANGUAGE.md that can be seen from outside or from the words of the source. */
public final class FaceTest {
    private static final String SOURCE = "src/main/java/GrowingCorners.java";
    private static final Set<String> METHODS = Set.of(
            "int box(int, int)", "int weight(int, int, int)", "int sheet(int, int, int)", "int drop(int)",
            "int item(int, int, int, int)", "int weights(int, int, int)", "int turn()", "int best(int, int)",
            "int between(int, int, int, int)", "int shape(int, int, int)", "int ways(int)", "long sums(int, int)",
            "int served(int, int)", "int line(int)", "int letter(int)", "int clear()", "int row(int)",
            "int place(int, int, int)", "int longest(int)", "int lay(int, int, int)", "int unlay()", "int back()",
            "int wordOf()", "long chance(int, int, int)");
    private static final Set<String> CONSTANTS =
            Set.of("BAD", "NOT", "FULL", "NONE", "NULL", "CAST", "INDEX", "SIZE");
    private static final Set<Class<?>> STATIC_TYPES = Set.of(int.class, long.class, boolean.class, char.class,
            String.class, int[].class, long[].class, char[].class, byte[].class);
    /** A method or constructor: its indent, its name, and its lines up to the brace of the same indent. */
    private static final Pattern METHOD = Pattern.compile(
            "(?ms)^( {4}| {8})(?=[a-zA-Z])(?!(?:if|for|while|switch|else|do|return)\\b)"
                    + "[^\n;={]*?(\\w+)\\([^;{)]*\\) \\{\n(.*?)^\\1\\}$");
    private static final Check check = new Check();

    public static void main(String[] args) throws Exception {
        constants();
        members();
        nestedClasses();
        counted();
        source();
        bodies();
        check.end();
    }

    private static void constants() {
        check.due("BAD", GrowingCorners.BAD, -1);
        check.due("NOT", GrowingCorners.NOT, -2);
        check.due("FULL", GrowingCorners.FULL, -3);
        check.due("NONE", GrowingCorners.NONE, -4);
        check.due("NULL", GrowingCorners.NULL, -11);
        check.due("CAST", GrowingCorners.CAST, -12);
        check.due("INDEX", GrowingCorners.INDEX, -13);
        check.due("SIZE", GrowingCorners.SIZE, -14);
    }

    private static void members() {
        Class<?> type = GrowingCorners.class;
        check.holds("public", Modifier.isPublic(type.getModifiers()));
        check.holds("final", Modifier.isFinal(type.getModifiers()));
        Set<String> seen = new TreeSet<>();
        for (Method method : type.getDeclaredMethods()) {
            if (!Modifier.isPrivate(method.getModifiers())) {
                check.holds(method + " is public", Modifier.isPublic(method.getModifiers()));
                seen.add(told(method));
            }
        }
        check.holds("the methods of the document: " + seen, seen.equals(METHODS));
        Set<String> fields = new TreeSet<>();
        for (Field field : type.getDeclaredFields()) {
            if (!Modifier.isPrivate(field.getModifiers())) {
                fields.add(field.getName());
            }
        }
        check.holds("the constants of the document: " + fields, fields.equals(CONSTANTS));
        Constructor<?>[] made = type.getDeclaredConstructors();
        check.holds("one public constructor", made.length == 1 && Modifier.isPublic(made[0].getModifiers())
                && made[0].getParameterCount() == 0);
    }

    private static String told(Method method) {
        String types = Arrays.toString(method.getParameterTypes());
        return method.getReturnType() + " " + method.getName() + "(" + types.substring(1, types.length() - 1) + ")";
    }

    private static Set<String> publicNames() {
        Set<String> names = new TreeSet<>();
        for (String method : METHODS) {
            names.add(method.substring(method.indexOf(' ') + 1, method.indexOf('(')));
        }
        return names;
    }

    private static void nestedClasses() {
        for (Class<?> inside : GrowingCorners.class.getDeclaredClasses()) {
            int is = inside.getModifiers();
            check.holds(inside + " is static", Modifier.isStatic(is));
            check.holds(inside + " is not seen outside", !Modifier.isPublic(is) && !Modifier.isProtected(is));
        }
        for (Class<?> type : allClasses()) {
            for (Method method : type.getDeclaredMethods()) {
                check.holds(method + " bears a name of its own",
                        Modifier.isPublic(method.getModifiers()) || !publicNames().contains(method.getName()));
            }
        }
    }

    private static List<Class<?>> allClasses() {
        List<Class<?>> types = new ArrayList<>(List.of(GrowingCorners.class.getDeclaredClasses()));
        types.add(GrowingCorners.class);
        return types;
    }

    /** What rules 5 and 11 count: kinds of static fields, parameters, classes, fields. */
    private static void counted() {
        check.holds("at most twelve classes", allClasses().size() <= 12);
        for (Class<?> type : allClasses()) {
            int fields = 0;
            for (Field field : type.getDeclaredFields()) {
                if (Modifier.isStatic(field.getModifiers())) {
                    check.holds(field + " is final", Modifier.isFinal(field.getModifiers()));
                    check.holds(field + " is a constant", STATIC_TYPES.contains(field.getType()));
                } else {
                    fields++;
                }
            }
            check.holds(type + " has at most twenty fields", fields <= 20);
            for (Method method : type.getDeclaredMethods()) {
                check.holds(method + " has at most seven parameters", method.getParameterCount() <= 7);
            }
        }
    }

    private static String sourceWithoutComments() throws Exception {
        return Files.readString(Path.of(SOURCE))
                .replaceAll("(?s)/\\*.*?\\*/", " ").replaceAll("//[^\n]*", " ");
    }

    private static void source() throws Exception {
        String text = sourceWithoutComments();
        String ruledOut = "\\b(throw|throws|try|catch|finally|synchronized|assert|package|Object|Exception|"
                + "Thread|Random|System\\.(?!arraycopy)\\w+|\\w+Exact|double|float)\\b"
                + "|\\bstatic\\s*\\{|->|::|\"";
        Matcher found = Pattern.compile(ruledOut).matcher(text);
        while (found.find()) {
            check.holds("the source has no " + found.group(), false);
        }
        Matcher imports = Pattern.compile("import\\s+([\\w.*]+)").matcher(text);
        while (imports.find()) {
            check.holds(imports.group(1) + " may be used",
                    Set.of("java.util.Arrays", "java.util.ArrayList", "java.util.List").contains(imports.group(1)));
        }
    }

    /** Rules 8 and 11: methods stay short, none calls itself, and calls go at most eight deep; and no call makes. */
    private static void bodies() throws Exception {
        Map<String, String> bodies = new TreeMap<>();
        int methods = 0;
        Matcher found = METHOD.matcher(sourceWithoutComments());
        while (found.find()) {
            methods++;
            String name = found.group(2);
            String body = found.group(3);
            check.holds(name + " has at most sixty lines", body.lines().count() <= 60);
            boolean constructor = Character.isUpperCase(name.charAt(0));
            check.holds(name + " makes nothing", constructor || !body.matches("(?s).*\\bnew\\b.*"));
            // Methods of one name in two classes count as one that calls what both call: never too shallow.
            bodies.merge(name, body, String::concat);
        }
        int declared = 0;
        for (Class<?> type : allClasses()) {
            declared += type.getDeclaredMethods().length + type.getDeclaredConstructors().length;
        }
        check.due("methods whose bodies were seen", methods, declared);
        for (String name : publicNames()) {
            check.holds("calls of " + name + " go at most eight deep",
                    bodies.containsKey(name) && depthOf(bodies, name, 1) <= 8);
        }
    }

    private static int depthOf(Map<String, String> bodies, String name, int level) {
        int deepest = level;
        Matcher called = Pattern.compile("(\\w+)\\(").matcher(bodies.get(name));
        while (level <= 8 && called.find()) {
            if (bodies.containsKey(called.group(1))) {
                deepest = Math.max(deepest, depthOf(bodies, called.group(1), level + 1));
            }
        }
        return deepest;
    }
}
