import java.io.IOException;
import java.lang.reflect.InvocationTargetException;
import java.lang.reflect.Method;
import java.lang.reflect.Modifier;
import java.nio.file.Files;
import java.nio.file.Path;
import java.util.Set;
import java.util.TreeSet;
import java.util.regex.Matcher;
import java.util.regex.Pattern;

/** Makes the calls that README.md tells, one behind the other on one object: each answers what stands behind it. */
public final class ReadmeTest {
    private static final Pattern CALL = Pattern.compile("flow\\.(\\w+)\\((.*)\\); +// (throws )?([-\\w]+): .+");
    private static final Check check = new Check("ReadmeTest");

    public static void main(String[] args) throws IOException, ReflectiveOperationException {
        BoxFlow flow = new BoxFlow();
        Set<String> called = new TreeSet<>();
        for (String line : Files.readAllLines(Path.of("README.md"))) {
            Matcher call = CALL.matcher(line);
            if (call.matches()) {
                called.add(call.group(1));
                check.due(line, answer(flow, call.group(1), call.group(2)), call.group(4));
            } else {
                check.due("each line with a call tells an answer: " + line, line.startsWith("flow."), false);
            }
        }
        for (Method method : BoxFlow.class.getDeclaredMethods()) {
            boolean isPublic = Modifier.isPublic(method.getModifiers());
            check.due(method.getName() + " is told", called.contains(method.getName()), isPublic);
        }
        check.end();
    }

    private static String answer(BoxFlow flow, String name, String arguments) throws ReflectiveOperationException {
        for (Method method : BoxFlow.class.getMethods()) {
            if (method.getName().equals(name)) {
                try {
                    return "" + method.invoke(flow, valuesOf(method.getParameterTypes(), arguments));
                } catch (InvocationTargetException e) {
                    return e.getCause().getClass().getSimpleName();
                }
            }
        }
        return "no such call";
    }

    private static Object[] valuesOf(Class<?>[] types, String arguments) {
        String[] texts = arguments.isEmpty() ? new String[0] : arguments.split(", ");
        Object[] values = new Object[texts.length];
        for (int i = 0; i < texts.length; i++) {
            if (types[i] == boolean.class) {
                values[i] = Boolean.valueOf(texts[i]);
            } else if (types[i] == long.class) {
                values[i] = Long.decode(texts[i].replace("L", ""));
            } else {
                values[i] = Integer.decode(texts[i]);
            }
        }
        return values;
    }
}
