import java.lang.reflect.Method;
import java.lang.reflect.Modifier;
import java.nio.file.Files;
import java.nio.file.Path;
import java.util.Set;
import java.util.TreeSet;
import java.util.regex.Matcher;
import java.util.regex.Pattern;
import java.util.stream.Stream;

/** README.md tells the truth: its example answers as it says, its tables name every call and every test. */
public final class ReadmeTest {
    private static final Check CHECK = new Check();
    private static final Path README = Path.of("README.md");
    private static final Pattern ANSWERED =
        Pattern.compile("^x\\.(\\w+)\\(([^)]*)\\);\\s+//.*-> (-?\\d+)", Pattern.MULTILINE);
    private static final Pattern CALL = Pattern.compile("^x\\.", Pattern.MULTILINE);

    public static void main(String[] args) throws Exception {
        String readme = Files.readString(README);
        example(readme);
        everyCallIsNamed(readme);
        everyTestIsNamed(readme);
        CHECK.end();
    }

    private static void example(String readme) throws Exception {
        LateMoons x = new LateMoons();
        Matcher m = ANSWERED.matcher(readme);
        int found = 0;
        while (m.find()) {
            found++;
            CHECK.due(m.group(1) + "(" + m.group(2) + ")", answerOf(x, m.group(1), m.group(2).split(", *")),
                Long.parseLong(m.group(3)));
        }
        CHECK.due("lines of the example that tell their answer", found, CALL.matcher(readme).results().count());
        CHECK.due("there is an example", found > 10 ? 1 : 0, 1);
    }

    private static long answerOf(LateMoons x, String name, String[] told) throws Exception {
        for (Method method : LateMoons.class.getMethods()) {
            if (method.getName().equals(name)) {
                Class<?>[] types = method.getParameterTypes();
                Object[] arguments = new Object[types.length];
                for (int i = 0; i < types.length; i++) {
                    arguments[i] = valueOf(types[i], told[i]);
                }
                return ((Number) method.invoke(x, arguments)).longValue();
            }
        }
        throw new IllegalStateException("no such call: " + name);
    }

    private static Object valueOf(Class<?> type, String told) {
        if (type == boolean.class) {
            return Boolean.valueOf(told);
        }
        long n = told.startsWith("'") ? told.charAt(1) : Long.parseLong(told.replace("L", ""));
        return type == long.class ? (Object) n : (Object) (int) n;
    }

    private static void everyCallIsNamed(String readme) {
        for (Method method : LateMoons.class.getDeclaredMethods()) {
            if (Modifier.isPublic(method.getModifiers())) {
                CHECK.due(method.getName() + " is in the table of calls",
                    readme.contains("`" + method.getName() + "`") ? 1 : 0, 1);
            }
        }
    }

    private static void everyTestIsNamed(String readme) throws Exception {
        Set<String> named = new TreeSet<>();
        Matcher m = Pattern.compile("^\\| (\\w+Test) \\|", Pattern.MULTILINE).matcher(readme);
        while (m.find()) {
            named.add(m.group(1));
        }
        Set<String> there = new TreeSet<>();
        try (Stream<Path> files = Files.list(Path.of("src/test/java"))) {
            files.map(f -> f.getFileName().toString()).filter(f -> f.endsWith("Test.java"))
                .forEach(f -> there.add(f.substring(0, f.length() - ".java".length())));
        }
        CHECK.same("the tests", named.toString(), there.toString());
    }
}
