import java.io.IOException;
import java.lang.reflect.Constructor;
import java.lang.reflect.Field;
import java.lang.reflect.Method;
import java.lang.reflect.Modifier;
import java.nio.file.Files;
import java.nio.file.Path;
import java.util.Set;
import java.util.TreeSet;
import java.util.regex.Matcher;
import java.util.regex.Pattern;

/** Those rules of LANGUAGE.md that can be looked up: the face, the words, the sizes. */
public final class LanguageTest {
    private static final Set<String> METHODS = new TreeSet<>(Set.of("letter", "blank", "fault", "blob",
        "dot", "as", "outline", "point", "joined", "penalty", "corner", "put", "take", "turn", "mirror",
        "rack", "racked", "weight", "see", "forget", "drawn", "image", "restore", "count", "digest"));
    private static final Set<String> CONSTANTS =
        new TreeSet<>(Set.of("NONE", "UNKNOWN", "OUTSIDE", "STATE", "FULL"));
    private static final String FORBIDDEN = "\\b(throw|throws|try|catch|synchronized|assert|import|protected"
        + "|package|Object|Float|Double|Random|Thread|equals|hashCode|toString|\\w+Exact)\\b|->|::";

    private static int wrong = 0;

    private static void check(boolean holds, String what) {
        if (!holds) {
            wrong++;
            System.out.println(what);
        }
    }

    public static void main(String[] args) throws IOException {
        face();
        for (Class<?> inner : BlobCorners.class.getDeclaredClasses()) {
            nested(inner);
        }
        words(Files.readString(Path.of("src/main/java/BlobCorners.java")));
        System.out.println(wrong == 0 ? "the rules are kept" : wrong + " breaches of the rules");
        if (wrong != 0) {
            System.exit(1);
        }
    }

    private static void face() {
        Set<String> methods = new TreeSet<>();
        for (Method m : BlobCorners.class.getDeclaredMethods()) {
            boolean isPublic = Modifier.isPublic(m.getModifiers());
            check(isPublic || Modifier.isPrivate(m.getModifiers()), "neither public nor private: " + m);
            check(isPublic || !METHODS.contains(m.getName()), "private, with a public one's name: " + m);
            check(m.getParameterCount() <= 7, "too many parameters: " + m);
            if (isPublic) {
                check(methods.add(m.getName()), "twice: " + m);
            }
        }
        check(methods.equals(METHODS), "the public methods are " + methods);
        Set<String> constants = new TreeSet<>();
        for (Field f : BlobCorners.class.getDeclaredFields()) {
            boolean isPublic = Modifier.isPublic(f.getModifiers());
            check(isPublic || Modifier.isPrivate(f.getModifiers()), "neither public nor private: " + f);
            if (isPublic) {
                constants.add(f.getName());
            }
        }
        check(constants.equals(CONSTANTS), "the public constants are " + constants);
        Constructor<?>[] all = BlobCorners.class.getDeclaredConstructors();
        check(all.length == 1 && all[0].getParameterCount() == 0, "not the one constructor");
        check(Modifier.isFinal(BlobCorners.class.getModifiers()), "not final");
        fields(BlobCorners.class);
    }

    private static void nested(Class<?> inner) {
        check(Modifier.isStatic(inner.getModifiers()), "not static: " + inner);
        check(!Modifier.isPublic(inner.getModifiers()), "public: " + inner);
        for (Method m : inner.getDeclaredMethods()) {
            check(!METHODS.contains(m.getName()), "with a public one's name: " + m);
        }
        fields(inner);
    }

    private static void fields(Class<?> some) {
        int own = 0;
        for (Field f : some.getDeclaredFields()) {
            if (Modifier.isStatic(f.getModifiers())) {
                check(Modifier.isFinal(f.getModifiers()), "static state: " + f);
            } else {
                own++;
            }
        }
        check(own <= 20, "too many fields: " + some);
        check(BlobCorners.class.getDeclaredClasses().length <= 11, "too many classes");
    }

    private static void words(String source) {
        String code = source.replaceAll("(?s)/\\*.*?\\*/", " ").replaceAll("//[^\n]*", " ")
            .replaceAll("\"[^\"\n]*\"", "\"\"");
        Matcher m = Pattern.compile(FORBIDDEN).matcher(code);
        while (m.find()) {
            check(false, "forbidden: " + m.group());
        }
        // What is made is made in constructors alone, so that no run of calls fills the room.
        int inFields = 0;
        for (String line : code.split("\n")) {
            if (line.contains("new ")) {
                check(line.matches("\\s*private final .*"), "made by a method: " + line.trim());
                inFields++;
            }
        }
        check(inFields > 0, "nothing is made at all");
    }
}
