import java.io.IOException;
import java.lang.reflect.InvocationTargetException;
import java.lang.reflect.Method;
import java.lang.reflect.Modifier;
import java.nio.file.Files;
import java.nio.file.Path;
import java.util.Map;
import java.util.Set;
import java.util.TreeSet;
import java.util.regex.Matcher;
import java.util.regex.Pattern;

/** Makes the calls that README.md shows, in order, and holds the answers against what it says. */
public final class ReadmeTest {
    private static final Pattern LETTERS = Pattern.compile("for \\(char c : \"(.*)\"\\.toCharArray\\(\\)\\) x\\.letter.*");
    private static final Pattern CALL = Pattern.compile("x\\.(\\w+)\\((.*?)\\); +// (-?\\d+|[A-Z]+)\\b.*");
    private static final Map<String, Integer> NAMES = Map.of("NONE", BlobCorners.NONE,
        "UNKNOWN", BlobCorners.UNKNOWN, "OUTSIDE", BlobCorners.OUTSIDE, "STATE", BlobCorners.STATE);

    private static int wrong = 0;

    private static void check(boolean holds, String what) {
        if (!holds) {
            wrong++;
            System.out.println(what);
        }
    }

    public static void main(String[] args)
        throws IOException, IllegalAccessException, InvocationTargetException {
        String page = Files.readString(Path.of("README.md"));
        BlobCorners x = new BlobCorners();
        int calls = 0;
        for (String line : page.split("\n")) {
            Matcher m = LETTERS.matcher(line);
            if (m.matches()) {
                for (char c : m.group(1).toCharArray()) {
                    x.letter(c);
                }
            }
            m = CALL.matcher(line);
            if (m.matches()) {
                calls++;
                Integer named = NAMES.get(m.group(3));
                long want = named != null ? named : Long.parseLong(m.group(3));
                long got = answer(x, m.group(1), m.group(2));
                check(got == want, line + ": answered " + got);
            }
        }
        check(calls >= 30, "only " + calls + " calls are found");
        namesEachCall(page);
        check(page.contains("bash .ci/run"), "how the tests are run is not said");
        System.out.println(wrong == 0 ? calls + " calls answer as README.md says" : wrong + " are not as it says");
        if (wrong != 0) {
            System.exit(1);
        }
    }

    private static long answer(BlobCorners x, String name, String parameters)
        throws IllegalAccessException, InvocationTargetException {
        String[] texts = parameters.isEmpty() ? new String[0] : parameters.split(", ");
        Object[] values = new Object[texts.length];
        for (int i = 0; i < texts.length; i++) {
            boolean isWord = texts[i].equals("true") || texts[i].equals("false");
            values[i] = isWord ? (Object) Boolean.valueOf(texts[i]) : (Object) Integer.valueOf(texts[i]);
        }
        for (Method method : BlobCorners.class.getMethods()) {
            if (method.getName().equals(name) && method.getParameterCount() == values.length) {
                return ((Number) method.invoke(x, values)).longValue();
            }
        }
        check(false, "no such call: " + name);
        return 0;
    }

    private static void namesEachCall(String page) {
        Set<String> missing = new TreeSet<>();
        for (Method method : BlobCorners.class.getDeclaredMethods()) {
            boolean isNamed = page.contains("`" + method.getName() + "(");
            if (Modifier.isPublic(method.getModifiers()) && !isNamed) {
                missing.add(method.getName());
            }
        }
        check(missing.isEmpty(), "not named: " + missing);
    }
}
