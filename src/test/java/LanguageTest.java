import java.lang.reflect.Constructor;
import java.lang.reflect.Field;
import java.lang.reflect.Method;
import java.lang.reflect.Modifier;
import java.nio.file.Files;
import java.nio.file.Path;
import java.util.ArrayList;
import java.util.List;
import java.util.Set;
import java.util.TreeSet;
import java.util.regex.Matcher;
import java.util.regex.Pattern;

/** The document's face, and words that ../shared/LANGUAGE.md leaves out; its other rules are RulesTest's. */
public final class LanguageTest {
    private static final Check CHECK = new Check();
    private static final Path SOURCE = Path.of("src/main/java/LateMoons.java");
    private static final Path DOCUMENT = Path.of("../shared/DOC.md");

    public static void main(String[] args) throws Exception {
        String source = bare(Files.readString(SOURCE));
        words(source);
        face();
        members();
        CHECK.end();
    }

    /** Without comments and the insides of texts. */
    private static String bare(String source) {
        return source.replaceAll("(?s)/\\*.*?\\*/", "").replaceAll("//[^\n]*", "")
            .replaceAll("\"(\\\\.|[^\"\\\\])*\"", "\"\"");
    }

    private static void words(String source) {
        String[] none = {"\\bthrows?\\b", "\\btry\\b", "\\bcatch\\b", "\\bfinally\\b", "\\bsynchronized\\b",
            "\\bassert\\b", "->", "::", "\\bpackage\\b", "\\bimport\\b", "Exact\\(", "\\bnative\\b", "\\bvolatile\\b",
            "\\bdouble\\b", "\\bfloat\\b", "static\\s*\\{", "\\bprotected\\b", "@", "\\bSystem\\.(?!arraycopy)"};
        for (String word : none) {
            CHECK.due("uses of " + word, Pattern.compile(word).matcher(source).results().count(), 0);
        }
    }

    private static void face() throws Exception {
        String document = Files.readString(DOCUMENT);
        int from = document.indexOf("public final class LateMoons {");
        String told = document.substring(from, document.indexOf("```", from));
        Set<String> due = new TreeSet<>();
        Matcher m = Pattern.compile("public (\\w+) (\\w+)\\(([^)]*)\\);").matcher(told);
        while (m.find()) {
            due.add(m.group(1) + " " + m.group(2) + "(" + m.group(3).replaceAll("(\\w+) \\w+", "$1") + ")");
        }
        Set<String> is = new TreeSet<>();
        for (Method method : LateMoons.class.getDeclaredMethods()) {
            if (Modifier.isPublic(method.getModifiers())) {
                is.add(signature(method));
            }
        }
        CHECK.due("34 promises less the first", due.size(), 33);
        CHECK.same("the public methods", is.toString(), due.toString());
        Constructor<?>[] constructors = LateMoons.class.getDeclaredConstructors();
        CHECK.due("constructors", constructors.length, 1);
        CHECK.due("its parameters", constructors[0].getParameterCount(), 0);
        CHECK.due("it is public", Modifier.isPublic(constructors[0].getModifiers()) ? 1 : 0, 1);
        CHECK.due("public and final", LateMoons.class.getModifiers() & (Modifier.PUBLIC | Modifier.FINAL),
            Modifier.PUBLIC | Modifier.FINAL);
    }

    private static String signature(Method method) {
        List<String> types = new ArrayList<>();
        for (Class<?> type : method.getParameterTypes()) {
            types.add(type.getSimpleName());
        }
        return method.getReturnType().getSimpleName() + " " + method.getName() + "(" + String.join(", ", types) + ")";
    }

    private static void members() {
        Set<String> names = new TreeSet<>();
        for (Method method : LateMoons.class.getDeclaredMethods()) {
            if (Modifier.isPublic(method.getModifiers())) {
                names.add(method.getName());
            }
        }
        List<Class<?>> classes = new ArrayList<>(List.of(LateMoons.class.getDeclaredClasses()));
        classes.add(LateMoons.class);
        for (Class<?> c : classes) {
            boolean isFace = c == LateMoons.class;
            CHECK.due(c + " is static", isFace || Modifier.isStatic(c.getModifiers()) ? 1 : 0, 1);
            CHECK.due(c + " has no classes", isFace ? 0 : c.getDeclaredClasses().length, 0);
            for (Method method : c.getDeclaredMethods()) {
                boolean isPublic = Modifier.isPublic(method.getModifiers());
                CHECK.due(method + " is of the face or private",
                    !isFace || isPublic || Modifier.isPrivate(method.getModifiers()) ? 1 : 0, 1);
                CHECK.due(method + " bears a public name", !isPublic && names.contains(method.getName()) ? 1 : 0, 0);
            }
            fields(c, isFace);
        }
    }

    private static void fields(Class<?> c, boolean isFace) {
        Set<Class<?>> constants = Set.of(int.class, long.class, boolean.class, char.class, String.class,
            int[].class, long[].class, char[].class, byte[].class);
        int own = 0;
        for (Field field : c.getDeclaredFields()) {
            boolean isStatic = Modifier.isStatic(field.getModifiers());
            own += isStatic ? 0 : 1;
            CHECK.due(field + " is a constant",
                !isStatic || Modifier.isFinal(field.getModifiers()) && constants.contains(field.getType()) ? 1 : 0, 1);
            CHECK.due(field + " is private", !isFace || Modifier.isPrivate(field.getModifiers()) ? 1 : 0, 1);
        }
        CHECK.due(c + " has twenty fields at most", own > 20 ? 1 : 0, 0);
    }
}
