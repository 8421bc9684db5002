import java.io.IOException;
import java.lang.reflect.InvocationTargetException;
import java.lang.reflect.Method;
import java.lang.reflect.Modifier;
import java.nio.file.Files;
import java.nio.file.Path;
import java.util.HashMap;
import java.util.Map;

/** Runs of calls with the answers of src/test/oracle, which works them out in another way. */
public final class RunsTest {
    private static final Due due = new Due();

    public static void main(String[] args) throws IOException {
        Map<String, Method> calls = new HashMap<>();
        for (Method method : HeckeSeries.class.getDeclaredMethods()) {
            if (Modifier.isPublic(method.getModifiers())) {
                calls.put(method.getName(), method);
            }
        }
        HeckeSeries x = new HeckeSeries();
        int line = 0;
        for (String row : Files.readAllLines(Path.of("src/test/resources/runs.txt"))) {
            line++;
            if (row.equals("new")) {
                x = new HeckeSeries();
                continue;
            }
            String[] sides = row.split(" = ");
            String[] words = sides[0].split(" ");
            due.same("runs.txt, line " + line + ": " + sides[0], answer(x, calls.get(words[0]), words), sides[1]);
        }
        due.end();
    }

    private static String answer(HeckeSeries x, Method method, String[] words) {
        Class<?>[] types = method.getParameterTypes();
        Object[] arguments = new Object[types.length];
        for (int i = 0; i < types.length; i++) {
            String word = words[i + 1];
            arguments[i] = types[i] == boolean.class ? (Object) word.equals("1") : (Object) Integer.parseInt(word);
        }
        try {
            Object answer = method.invoke(x, arguments);
            return answer instanceof Boolean ? ((Boolean) answer ? "1" : "0") : answer.toString();
        } catch (InvocationTargetException e) {
            return "throws." + e.getCause().getClass().getSimpleName();
        } catch (IllegalAccessException e) {
            return "no access";
        }
    }
}
