import java.nio.file.Files;
import java.nio.file.Path;
import java.util.Set;
import java.util.TreeSet;
import java.util.regex.Matcher;
import java.util.regex.Pattern;

/** README.md: each call that it shows answers what stands behind it, each call and each constant is shown. */
public final class ReadmeTest {
    private static final Pattern SHOWN = Pattern.compile("x\\.(\\w+)\\(([-\\d, ]*)\\); +// (-?\\d+)(:.*)?");
    private static final Pattern REFUSAL = Pattern.compile("\\| `([A-Z]+)` \\| (-\\d+) \\|.*");
    private static final Check check = new Check();

    public static void main(String[] args) throws Exception {
        Set<String> calls = new TreeSet<>();
        int refusals = 0;
        GrowingCorners x = null;
        for (String line : Files.readAllLines(Path.of("README.md"))) {
            if (line.equals("GrowingCorners x = new GrowingCorners();")) {
                x = new GrowingCorners();
            } else if (line.startsWith("x.")) {
                calls.add(shown(x, line));
            }
            Matcher refusal = REFUSAL.matcher(line);
            if (refusal.matches()) {
                refusals++;
                check.due(line, GrowingCorners.class.getField(refusal.group(1)).getInt(null),
                        Integer.parseInt(refusal.group(2)));
            }
        }
        check.holds("every call is shown, not only " + calls, calls.equals(Set.of(Calls.NAMES)));
        check.due("refusals", refusals, 8);
        check.end();
    }

    /** The call's name, once it has been made. */
    private static String shown(GrowingCorners x, String line) {
        Matcher call = SHOWN.matcher(line);
        boolean isCall = call.matches();
        check.holds("a call with its answer: " + line, isCall && x != null);
        if (!isCall || x == null) {
            return "";
        }
        int[] a = new int[4];
        String[] words = call.group(2).isEmpty() ? new String[0] : call.group(2).split(", ");
        check.due("arguments of " + line, words.length, Calls.argumentsOf(call.group(1)));
        for (int n = 0; n < words.length; n++) {
            a[n] = Integer.parseInt(words[n]);
        }
        check.due(line, Calls.call(x, call.group(1), a[0], a[1], a[2], a[3]), Long.parseLong(call.group(3)));
        return call.group(1);
    }
}
