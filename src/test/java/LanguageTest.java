import java.io.IOException;
import java.lang.reflect.Constructor;
import java.lang.reflect.Field;
import java.lang.reflect.Method;
import java.lang.reflect.Modifier;
import java.nio.file.Files;
import java.nio.file.Path;
import java.util.ArrayList;
import java.util.List;
import java.util.Map;
import java.util.Set;
import java.util.TreeMap;
import java.util.TreeSet;
import java.util.regex.Matcher;
import java.util.regex.Pattern;

/** Those rules of LANGUAGE.md that can be looked up: the face, the words, the library, the sizes. */
public final class LanguageTest {
    private static final Set<String> METHODS = new TreeSet<>(Set.of("letter", "blank", "fault", "blob",
        "dot", "as", "outline", "point", "joined", "penalty", "corner", "put", "take", "turn", "mirror",
        "rack", "racked", "weight", "see", "forget", "drawn", "image", "restore", "count", "digest"));
    private static final Set<String> CONSTANTS =
        new TreeSet<>(Set.of("NONE", "UNKNOWN", "OUTSIDE", "STATE", "FULL"));
    private static final String FORBIDDEN = "\\b(throw|throws|try|catch|synchronized|assert|import|protected"
        + "|package|Object|Float|Double|Random|Thread|equals|hashCode|toString|\\w+Exact)\\b|->|::";

    private static final Set<String> STATIC_TYPES =
        Set.of("int", "long", "boolean", "char", "String", "int[]", "long[]", "char[]", "byte[]");
    private static final int MOST_LINES = 60;
    private static final int MOST_DEEP = 8;
    private static final Pattern CLASS = Pattern.compile("class (\\w+)");
    private static final Pattern METHOD =
        Pattern.compile("    +(?:private|public)(?: static)? [\\w\\[\\]]+ (\\w+)\\(.*\\{");
    private static final Pattern CALL = Pattern.compile("(?:(\\w+)\\.)?\\b([a-z]\\w*)\\(");
    private static final Set<String> NO_CALLS = Set.of("if", "for", "while", "switch", "return");
    // Of the library no more than this is used; LANGUAGE.md's rule 4 lets all of it be.
    private static final Set<String> LIBRARY =
        Set.of("Math.abs", "Math.max", "Math.min", "Integer.bitCount", "SIGNS.indexOf");
    private static final Set<String> LIBRARY_TYPES = Set.of("String", "Math", "Integer");
    private static final Pattern FACE_METHOD = Pattern.compile("    public (int|long) (\\w+)\\((.*)\\);");

    private static int wrong = 0;

    private static void check(boolean holds, String what) {
        if (!holds) {
            wrong++;
            System.out.println(what);
        }
    }

    public static void main(String[] args) throws IOException {
        face();
        for (Class<?> inner : BlobCorners.class.getDeclaredClasses()) {
            nested(inner);
        }
        signatures(Files.readString(Path.of("../shared/DOC.md")));
        String source = Files.readString(Path.of("src/main/java/BlobCorners.java"));
        check(source.chars().allMatch(c -> c < 127), "a sign that is not plain in the source");
        String code = withoutRemarks(source);
        words(code);
        types(code);
        libraryCalls(code);
        Map<String, List<String>> bodies = bodies(code);
        check(bodies.size() > METHODS.size(), "the methods are not found");
        for (String method : bodies.keySet()) {
            int lines = bodies.get(method).size();
            check(lines <= MOST_LINES, method + " has " + lines + " lines");
            int deep = depth(bodies, method, 1);
            check(deep <= MOST_DEEP, method + " goes " + deep + " calls deep");
        }
        System.out.println(wrong == 0 ? "the rules are kept" : wrong + " breaches of the rules");
        if (wrong != 0) {
            System.exit(1);
        }
    }

    private static void face() {
        Set<String> methods = new TreeSet<>();
        for (Method m : BlobCorners.class.getDeclaredMethods()) {
            boolean isPublic = Modifier.isPublic(m.getModifiers());
            check(isPublic || Modifier.isPrivate(m.getModifiers()), "neither public nor private: " + m);
            check(isPublic || !METHODS.contains(m.getName()), "private, with a public one's name: " + m);
            check(m.getParameterCount() <= 7, "too many parameters: " + m);
            if (isPublic) {
                check(methods.add(m.getName()), "twice: " + m);
            }
        }
        check(methods.equals(METHODS), "the public methods are " + methods);
        Set<String> constants = new TreeSet<>();
        for (Field f : BlobCorners.class.getDeclaredFields()) {
            boolean isPublic = Modifier.isPublic(f.getModifiers());
            check(isPublic || Modifier.isPrivate(f.getModifiers()), "neither public nor private: " + f);
            if (isPublic) {
                constants.add(f.getName());
            }
        }
        check(constants.equals(CONSTANTS), "the public constants are " + constants);
        Constructor<?>[] all = BlobCorners.class.getDeclaredConstructors();
        check(all.length == 1 && all[0].getParameterCount() == 0, "not the one constructor");
        check(Modifier.isFinal(BlobCorners.class.getModifiers()), "not final");
        fields(BlobCorners.class);
    }

    /** Each method takes and answers what the document's face says, not its name alone. */
    private static void signatures(String document) {
        Set<String> due = new TreeSet<>();
        Matcher m = FACE_METHOD.matcher(document);
        while (m.find()) {
            String parameters = m.group(3).replaceAll(" \\w+(,|$)", "$1");
            due.add(m.group(1) + " " + m.group(2) + "(" + parameters + ")");
        }
        check(due.size() == METHODS.size(), "the face is not found in the document: " + due);
        Set<String> own = new TreeSet<>();
        for (Method method : BlobCorners.class.getDeclaredMethods()) {
            if (Modifier.isPublic(method.getModifiers())) {
                check(!Modifier.isStatic(method.getModifiers()), "static: " + method);
                List<String> parameters = new ArrayList<>();
                for (Class<?> type : method.getParameterTypes()) {
                    parameters.add(type.getName());
                }
                own.add(method.getReturnType().getName() + " " + method.getName() + "("
                    + String.join(", ", parameters) + ")");
            }
        }
        check(own.equals(due), "the face is " + own + ", due is " + due);
    }

    private static void nested(Class<?> inner) {
        check(Modifier.isStatic(inner.getModifiers()), "not static: " + inner);
        check(!Modifier.isPublic(inner.getModifiers()), "public: " + inner);
        for (Method m : inner.getDeclaredMethods()) {
            check(!METHODS.contains(m.getName()), "with a public one's name: " + m);
            check(m.getParameterCount() <= 7, "too many parameters: " + m);
        }
        fields(inner);
    }

    private static void fields(Class<?> some) {
        int own = 0;
        for (Field f : some.getDeclaredFields()) {
            if (Modifier.isStatic(f.getModifiers())) {
                check(Modifier.isFinal(f.getModifiers()), "static state: " + f);
                check(STATIC_TYPES.contains(f.getType().getSimpleName()), "static, of a wrong type: " + f);
            } else {
                own++;
            }
        }
        check(own <= 20, "too many fields: " + some);
        check(BlobCorners.class.getDeclaredClasses().length <= 11, "too many classes");
    }

    private static String withoutRemarks(String source) {
        return source.replaceAll("(?s)/\\*.*?\\*/", " ").replaceAll("//[^\n]*", " ")
            .replaceAll("\"[^\"\n]*\"", "\"\"");
    }

    /** The lines of each method, by its class and name. */
    private static Map<String, List<String>> bodies(String code) {
        Map<String, List<String>> all = new TreeMap<>();
        String some = "";
        List<String> body = new ArrayList<>();
        int open = 0;
        for (String line : code.split("\n")) {
            Matcher m = CLASS.matcher(line);
            if (m.find()) {
                some = m.group(1);
            }
            m = METHOD.matcher(line);
            if (open == 0 && m.matches()) {
                body = new ArrayList<>();
                check(all.put(some + "." + m.group(1), body) == null, "twice: " + line);
            }
            if (open > 0 || m.matches()) {
                body.add(line);
                open += line.replaceAll("[^{]", "").length() - line.replaceAll("[^}]", "").length();
            }
        }
        return all;
    }

    /**
     * How many calls stand open at most, this one and the library's counted. Which class a call on an
     * object goes to is not looked up: the deepest method of that name counts.
     */
    private static int depth(Map<String, List<String>> bodies, String method, int level) {
        int deepest = level;
        List<String> body = bodies.get(method);
        for (int i = 1; i < body.size() && level <= MOST_DEEP; i++) {
            Matcher m = CALL.matcher(body.get(i));
            while (m.find()) {
                if (NO_CALLS.contains(m.group(2))) {
                    continue;
                }
                deepest = Math.max(deepest, level + 1);
                for (String other : bodies.keySet()) {
                    if (goesTo(bodies, method, m.group(1), m.group(2), other)) {
                        deepest = Math.max(deepest, depth(bodies, other, level + 1));
                    }
                }
            }
        }
        return deepest;
    }

    private static boolean goesTo(Map<String, List<String>> bodies, String from, String on, String name,
        String other) {
        if (!other.endsWith("." + name)) {
            return false;
        }
        String own = from.substring(0, from.indexOf('.') + 1) + name;
        return on == null ? other.equals(bodies.containsKey(own) ? own : "BlobCorners." + name)
            : !on.equals("Math") && !on.equals("Integer");
    }

    /** Words with a great letter first are constants, own classes, or of the library. */
    private static void types(String code) {
        Set<String> own = new TreeSet<>();
        Matcher m = CLASS.matcher(code);
        while (m.find()) {
            own.add(m.group(1));
        }
        check(own.contains("BlobCorners") && own.size() <= 12, "classes: " + own);
        m = Pattern.compile("\\b[A-Z]\\w*[a-z]\\w*").matcher(code);
        while (m.find()) {
            check(own.contains(m.group()) || LIBRARY_TYPES.contains(m.group()), "not to be used: " + m.group());
        }
        check(!Pattern.compile("\\bInteger\\b(?!\\.)").matcher(code).find(), "Integer without a list that holds it");
        // A cast to a class would have to stand behind a test; there is none at all.
        m = Pattern.compile("\\([A-Z]\\w*[a-z]\\w*(\\[\\])?\\) ?[\\w(]").matcher(code);
        while (m.find()) {
            check(false, "a cast: " + m.group());
        }
        check(!Pattern.compile("\\[\\]\\[\\]").matcher(code).find(), "arrays of arrays");
    }

    private static void libraryCalls(String code) {
        Matcher m = Pattern.compile("\\b([A-Z]\\w*)\\.(\\w+)\\(").matcher(code);
        while (m.find()) {
            String call = m.group(1) + "." + m.group(2);
            boolean isOwn = code.contains("class " + m.group(1) + " ");
            check(isOwn || LIBRARY.contains(call), "not to be called: " + call);
        }
        m = Pattern.compile("\"\"\\s*\\+|\\+\\s*\"\"").matcher(code);
        check(!m.find(), "texts joined by +");
    }

    private static void words(String code) {
        Matcher m = Pattern.compile(FORBIDDEN).matcher(code);
        while (m.find()) {
            check(false, "forbidden: " + m.group());
        }
        // What is made is made in constructors alone, so that no run of calls fills the room.
        int inFields = 0;
        for (String line : code.split("\n")) {
            if (line.contains("new ")) {
                check(line.matches("\\s*private final .*"), "made by a method: " + line.trim());
                inFields++;
            }
        }
        check(inFields > 0, "nothing is made at all");
    }
}
