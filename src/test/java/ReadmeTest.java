import java.lang.reflect.Method;
import java.lang.reflect.Modifier;
import java.nio.file.Files;
import java.nio.file.Path;
import java.util.ArrayList;
import java.util.List;
import java.util.Set;
import java.util.TreeSet;
import java.util.regex.Matcher;
import java.util.regex.Pattern;

/** Runs the example of README.md line by line: each answers what stands behind it. */
public final class ReadmeTest {
    private static final Check check = new Check("ReadmeTest");
    private static final String FIRST = "RecordCalls x = new RecordCalls();";
    private static final Pattern CALL = Pattern.compile("x\\.(\\w+)\\((.*)\\); +// (.*)");

    public static void main(String[] args) throws Exception {
        List<String> example = example();
        check.same("the first line", example.get(0), FIRST);
        RecordCalls x = new RecordCalls();
        Set<String> notShown = publicNames();
        for (String line : example.subList(1, example.size())) {
            Matcher call = CALL.matcher(line);
            boolean isCall = call.matches();
            check.same("is a call with a comment: " + line, isCall, true);
            if (isCall) {
                run(x, call);
                notShown.remove(call.group(1));
            }
        }
        check.same("methods that the example does not show", notShown.toString(), "[]");
        check.finish();
    }

    private static List<String> example() throws Exception {
        List<String> lines = Files.readAllLines(Path.of("README.md"));
        int start = lines.indexOf("```java") + 1;
        return lines.subList(start, start + lines.subList(start, lines.size()).indexOf("```"));
    }

    private static Set<String> publicNames() {
        Set<String> names = new TreeSet<>();
        for (Method method : RecordCalls.class.getDeclaredMethods()) {
            if (Modifier.isPublic(method.getModifiers())) {
                names.add(method.getName());
            }
        }
        return names;
    }

    private static void run(RecordCalls x, Matcher call) throws Exception {
        Method method = methodNamed(call.group(1));
        Object answer = method.invoke(x, arguments(call.group(2), method.getParameterTypes()));
        if (method.getReturnType() != void.class) {
            String due = call.group(3).split(":")[0];
            check.same("the answer of " + call.group(), String.valueOf(answer), due);
        }
    }

    private static Method methodNamed(String name) {
        for (Method method : RecordCalls.class.getDeclaredMethods()) {
            if (method.getName().equals(name)) {
                return method;
            }
        }
        throw new IllegalArgumentException("no method " + name);
    }

    private static Object[] arguments(String text, Class<?>[] types) {
        List<Object> arguments = new ArrayList<>();
        String[] texts = text.isEmpty() ? new String[0] : text.split(", ");
        for (int i = 0; i < texts.length; i++) {
            arguments.add(argument(texts[i], types[i]));
        }
        return arguments.toArray();
    }

    private static Object argument(String text, Class<?> type) {
        if (type == boolean.class) {
            return Boolean.valueOf(text);
        }
        if (type == long.class) {
            return Long.valueOf(text.replace("L", ""));
        }
        return Integer.decode(text);
    }
}
