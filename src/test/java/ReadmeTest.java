import java.io.IOException;
import java.lang.reflect.InvocationTargetException;
import java.lang.reflect.Method;
import java.lang.reflect.Modifier;
import java.nio.file.Files;
import java.nio.file.Path;
import java.util.List;
import java.util.TreeSet;
import java.util.regex.Matcher;
import java.util.regex.Pattern;

/** README.md's example answers what it says there, and its table has every call. Runs in the project's directory. */
public final class ReadmeTest {
    private static final String MAKING = "BreakingDisk disk = new BreakingDisk();";
    private static final Pattern EXAMPLE = Pattern.compile("disk\\.(\\w+)\\((.*)\\); +// ([^:]+): .+");
    private static final Pattern TABLE_ROW = Pattern.compile("\\| `(\\w+)\\(([^)]*)\\)` \\|.*");
    private static final Check check = new Check();

    public static void main(String[] args) throws IOException {
        List<String> lines = Files.readAllLines(Path.of("README.md"));
        exampleAnswersAsItSays(lines);
        check.due("the table's calls", calls(), () -> callsOfTable(lines));
        check.end("ReadmeTest");
    }

    private static void exampleAnswersAsItSays(List<String> lines) {
        int first = lines.indexOf("```java") + 1;
        check.due("the example begins", MAKING, () -> lines.get(first));
        BreakingDisk disk = new BreakingDisk();
        TreeSet<String> used = new TreeSet<>();
        for (String line : lines.subList(first + 1, lines.indexOf("```"))) {
            Matcher example = EXAMPLE.matcher(line);
            boolean readable = example.matches();
            check.due("a call with its answer: " + line, true, () -> readable);
            if (readable) {
                used.add(example.group(1));
                check.due(line, example.group(3), () -> answer(disk, example.group(1), example.group(2)));
            }
        }
        check.due("the example uses every call", names(), () -> used);
    }

    /** The answer as README.md writes it: "done" if there is none, an exception by its class. */
    private static String answer(BreakingDisk disk, String name, String arguments) {
        Method method = methodOf(name);
        try {
            Object answer = method.invoke(disk, values(arguments, method.getParameterTypes()));
            return answer == null ? "done" : answer.toString();
        } catch (InvocationTargetException e) {
            return e.getCause().getClass().getSimpleName();
        } catch (IllegalAccessException e) {
            throw new IllegalStateException(e);
        }
    }

    private static Object[] values(String arguments, Class<?>[] types) {
        String[] texts = arguments.isEmpty() ? new String[0] : arguments.split(", ");
        Object[] values = new Object[texts.length];
        for (int i = 0; i < texts.length; i++) {
            String text = texts[i].equals("BreakingDisk.NONE") ? "-1" : texts[i];
            values[i] = types[i] == long.class ? (Object) Long.decode(text.replace("L", "")) : Integer.decode(text);
        }
        return values;
    }

    private static Method methodOf(String name) {
        for (Method method : BreakingDisk.class.getDeclaredMethods()) {
            if (isCall(method) && method.getName().equals(name)) {
                return method;
            }
        }
        throw new IllegalStateException("no call " + name);
    }

    private static boolean isCall(Method method) {
        return Modifier.isPublic(method.getModifiers());
    }

    private static TreeSet<String> names() {
        TreeSet<String> names = new TreeSet<>();
        for (Method method : BreakingDisk.class.getDeclaredMethods()) {
            if (isCall(method)) {
                names.add(method.getName());
            }
        }
        return names;
    }

    /** Every call of the class with its number of arguments. */
    private static TreeSet<String> calls() {
        TreeSet<String> calls = new TreeSet<>();
        for (String name : names()) {
            calls.add(name + " of " + methodOf(name).getParameterCount());
        }
        return calls;
    }

    private static TreeSet<String> callsOfTable(List<String> lines) {
        TreeSet<String> calls = new TreeSet<>();
        for (String line : lines) {
            Matcher row = TABLE_ROW.matcher(line);
            if (row.matches()) {
                int arguments = row.group(2).isEmpty() ? 0 : row.group(2).split(", ").length;
                calls.add(row.group(1) + " of " + arguments);
            }
        }
        return calls;
    }
}
