import java.io.IOException;
import java.lang.reflect.InvocationTargetException;
import java.lang.reflect.Method;
import java.lang.reflect.Modifier;
import java.nio.file.Files;
import java.nio.file.Path;
import java.util.Set;
import java.util.TreeSet;
import java.util.regex.Matcher;
import java.util.regex.Pattern;

/** README.md: each call of its example is made, and answers what stands behind it. */
final class ReadmeTest {
    private static final Pattern MADE = Pattern.compile("PostDisk disk = new PostDisk\\((\\d+)\\);.*");
    private static final Pattern CALL =
            Pattern.compile("disk\\.(\\w+)\\(([^)]*)\\);\\s+// (-?\\d+|[A-Z]+): .*");

    private PostDisk disk;
    private final Set<String> used = new TreeSet<>();

    public static void main(String[] args) throws IOException, ReflectiveOperationException {
        String readme = Files.readString(Path.of("README.md"));
        new ReadmeTest().run(example(readme));
        everyCallIsTold(readme);
        Check.end();
    }

    private static String example(String readme) {
        int begin = readme.indexOf("```java\n");
        int end = readme.indexOf("```", begin + 3);
        Check.due("an example in README.md", begin >= 0 && end > begin ? 1 : 0, 1);
        return begin >= 0 && end > begin ? readme.substring(begin + 8, end) : "";
    }

    private void run(String example) throws ReflectiveOperationException {
        for (String line : example.split("\n")) {
            Matcher made = MADE.matcher(line);
            Matcher call = CALL.matcher(line);
            if (made.matches()) {
                disk = new PostDisk(Integer.parseInt(made.group(1)));
            } else if (call.matches() && disk != null) {
                Check.due(line, answer(call.group(1), call.group(2)), due(call.group(3)));
                used.add(call.group(1));
            } else {
                Check.same("a line of the example", line, "");
            }
        }
        Check.due("different calls in the example", used.size(), 14);
    }

    private int answer(String name, String written) throws ReflectiveOperationException {
        String[] arguments = written.isEmpty() ? new String[0] : written.split(", ");
        Class<?>[] types = new Class<?>[arguments.length];
        Object[] values = new Object[arguments.length];
        for (int i = 0; i < arguments.length; i++) {
            boolean isNumber = arguments[i].matches("-?\\d+");
            types[i] = isNumber ? int.class : boolean.class;
            values[i] = isNumber ? (Object) Integer.valueOf(arguments[i]) : Boolean.valueOf(arguments[i]);
        }
        try {
            return (Integer) PostDisk.class.getMethod(name, types).invoke(disk, values);
        } catch (InvocationTargetException e) {
            Check.same(name, String.valueOf(e.getCause()), "no exception");
            return Integer.MIN_VALUE;
        }
    }

    private static int due(String written) throws ReflectiveOperationException {
        return written.matches("-?\\d+")
                ? Integer.parseInt(written)
                : PostDisk.class.getField(written).getInt(null);
    }

    private static void everyCallIsTold(String readme) {
        for (Method method : PostDisk.class.getDeclaredMethods()) {
            if (Modifier.isPublic(method.getModifiers())) {
                boolean isTold = readme.contains("| `" + method.getName() + "(");
                Check.due("README.md tells of " + method.getName(), isTold ? 1 : 0, 1);
            }
        }
    }
}
