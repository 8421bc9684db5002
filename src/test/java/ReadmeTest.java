import java.io.IOException;
import java.lang.reflect.InvocationTargetException;
import java.lang.reflect.Method;
import java.lang.reflect.Modifier;
import java.nio.file.Files;
import java.nio.file.Path;
import java.util.Map;
import java.util.TreeMap;
import java.util.regex.Matcher;
import java.util.regex.Pattern;

/** Each call that README.md shows, with the answer that stands behind it. */
public final class ReadmeTest {
    private static final String MAKING = "HeckeSeries series = new HeckeSeries();";
    /** An answer ends at a blank, a comma or a colon: what follows it is for the reader. */
    private static final Pattern SHOWN =
            Pattern.compile("series\\.(\\w+)\\(([^)]*)\\); +// (throws \\w+|[-\\w]+)(?:[ ,:].*)?");

    private static final Due due = new Due();
    private static final Map<String, Method> calls = new TreeMap<>();
    private static HeckeSeries series;

    public static void main(String[] args) throws IOException {
        due.part("README.md");
        for (Method method : HeckeSeries.class.getDeclaredMethods()) {
            if (Modifier.isPublic(method.getModifiers())) {
                calls.put(method.getName(), method);
            }
        }
        Map<String, Method> notShown = new TreeMap<>(calls);
        boolean inJava = false;
        for (String line : Files.readAllLines(Path.of("README.md"))) {
            if (line.startsWith("```")) {
                inJava = line.equals("```java");
            } else if (inJava && line.equals(MAKING)) {
                series = new HeckeSeries();
            } else if (inJava) {
                notShown.remove(shown(line));
            }
        }
        due.same("calls that are not shown", notShown.keySet(), "[]");
        due.end();
    }

    /** The name of the call that a line shows. */
    private static String shown(String line) {
        Matcher matcher = SHOWN.matcher(line);
        boolean isCall = matcher.matches() && calls.containsKey(matcher.group(1));
        due.same(line + ": a call with its answer", isCall && series != null, true);
        if (!isCall || series == null) {
            return "";
        }
        due.same(line, answer(calls.get(matcher.group(1)), matcher.group(2)), matcher.group(3));
        return matcher.group(1);
    }

    private static String answer(Method method, String words) {
        Class<?>[] types = method.getParameterTypes();
        String[] each = words.isEmpty() ? new String[0] : words.split(", ");
        if (each.length != types.length) {
            return "not so many arguments";
        }
        Object[] arguments = new Object[types.length];
        for (int i = 0; i < types.length; i++) {
            arguments[i] = types[i] == boolean.class ? (Object) each[i].equals("true") : (Object) Integer.decode(each[i]);
        }
        try {
            return method.invoke(series, arguments).toString();
        } catch (InvocationTargetException e) {
            return "throws " + e.getCause().getClass().getSimpleName();
        } catch (IllegalAccessException e) {
            return "no access";
        }
    }
}
