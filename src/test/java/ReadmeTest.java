import java.io.IOException;
import java.lang.reflect.InvocationTargetException;
import java.lang.reflect.Method;
import java.nio.file.DirectoryStream;
import java.nio.file.Files;
import java.nio.file.Path;
import java.util.Set;
import java.util.TreeSet;
import java.util.regex.Matcher;
import java.util.regex.Pattern;

/** README.md's example answers as it says there, it uses every call, and every test is named. */
public final class ReadmeTest {
    private static final Due DUE = new Due();
    private static final Pattern CALL = Pattern.compile("page\\.(\\w+)\\((.*?)\\);\\s*// ([\\w-]+)(:.*)?");

    public static void main(String[] args) throws IOException, IllegalAccessException {
        Path root = Path.of(args.length > 0 ? args[0] : "src/main/java/TextOrder.java")
                .toAbsolutePath().getParent().resolve("../../..").normalize();
        String readme = Files.readString(root.resolve("README.md"));
        checkExample(readme.substring(readme.indexOf("```java"), readme.indexOf("| call |")));
        checkTestsAreNamed(readme, root.resolve("src/test/java"));
        DUE.end();
    }

    private static void checkExample(String example) throws IllegalAccessException {
        TextOrder page = new TextOrder();
        Set<String> used = new TreeSet<>();
        for (String line : example.lines().filter(l -> l.startsWith("page.")).toList()) {
            Matcher call = CALL.matcher(line);
            if (!call.matches()) {
                DUE.holds("a call and its answer: " + line, false);
                continue;
            }
            Method method = methodOf(call.group(1));
            String got = answer(page, method, call.group(2).isEmpty() ? new String[0] : call.group(2).split(", "));
            DUE.holds(line + " answered " + got, got.equals(call.group(3)));
            used.add(call.group(1));
        }
        DUE.is("calls of the face in the example " + used, used.size(), 16);
    }

    private static Method methodOf(String name) {
        for (Method method : TextOrder.class.getMethods()) {
            if (method.getName().equals(name)) {
                return method;
            }
        }
        throw new AssertionError("the example uses a call that is not there: " + name);
    }

    private static String answer(TextOrder page, Method method, String[] words) throws IllegalAccessException {
        Class<?>[] types = method.getParameterTypes();
        if (types.length != words.length) {
            return "nothing, it takes " + types.length;
        }
        Object[] values = new Object[words.length];
        for (int i = 0; i < words.length; i++) {
            values[i] = value(types[i], words[i]);
        }
        try {
            return String.valueOf(method.invoke(page, values));
        } catch (InvocationTargetException e) {
            return e.getCause().getClass().getSimpleName();
        }
    }

    private static Object value(Class<?> type, String word) {
        if (type == boolean.class) {
            return Boolean.valueOf(word);
        }
        long number = word.startsWith("'") ? word.charAt(1) : Long.parseLong(word);
        return type == long.class ? (Object) number : (Object) (int) number;
    }

    private static void checkTestsAreNamed(String readme, Path folder) throws IOException {
        try (DirectoryStream<Path> files = Files.newDirectoryStream(folder, "*.java")) {
            for (Path file : files) {
                String name = file.getFileName().toString().replace(".java", "");
                DUE.holds(name + " is named in README.md", readme.contains("`" + name + "`"));
            }
        }
    }
}
