import java.io.IOException;
import java.lang.reflect.Constructor;
import java.lang.reflect.Field;
import java.lang.reflect.Member;
import java.lang.reflect.Method;
import java.lang.reflect.Modifier;
import java.nio.file.Files;
import java.nio.file.Path;
import java.util.Arrays;
import java.util.Set;
import java.util.TreeSet;
import java.util.regex.Matcher;
import java.util.regex.Pattern;

/** The face of the document, and those rules of LANGUAGE.md that a text or a class file shows. */
public final class LanguageTest {
    private static final String FACE = "boolean hecke(int,int); boolean image(int,boolean);"
            + " boolean plus(int,int,int); boolean put(int,int,boolean,int); int alike(int,int,int);"
            + " int book(int); int coefficient(int,int); int count(int); int feed(int,int,int,int,int);"
            + " int let(int,int); int makes(int,boolean); int multiplies(int,int); int own(int,int,int);"
            + " int parts(int,int); int polynomial(int,int,int); int root(int,int); int share(int,int);"
            + " int small(int); int swap(); int table(int,int,int,int); int take(int,int);"
            + " int times(int,int); int traceLeft(int,int); int weight(int); int whole(int);"
            + " long row(int,int,int); long trace(int,int)";
    /** What no line of the class may hold, strings and comments aside. */
    private static final String[] FORBIDDEN = {"Exact\\b", "\\bFloat\\.", "\\bDouble\\.", "->", "::", "\\bcatch\\b",
        "\\btry\\b", "\\bfinally\\b", "\\bsynchronized\\b", "\\bassert\\b", "\\bnull\\b", "\\bvar\\b", "\\bdouble\\b",
        "Math\\.(?!abs|min|max|floorMod|floorDiv)", "\\bstatic\\s*\\{", "\\bSystem\\.(?!arraycopy)",
        "\\bArrays\\.(?!fill|copyOf)", "\\bthrow new (?!NoSuchElementException\\(\\))", "\\.equals\\b",
        "static (?!final|float|int|long|boolean|void|Form|Shelf)", "while \\(true\\)", "for \\(;;\\)"};

    private static final Due due = new Due();

    public static void main(String[] args) throws IOException {
        face();
        nestedClasses();
        text();
        due.end();
    }

    private static void face() {
        due.part("face");
        int modifiers = HeckeSeries.class.getModifiers();
        due.same("public", Modifier.isPublic(modifiers), true);
        due.same("final", Modifier.isFinal(modifiers), true);
        Set<String> found = new TreeSet<>();
        Set<String> publicNames = new TreeSet<>();
        for (Method method : HeckeSeries.class.getDeclaredMethods()) {
            if (isOpen(method)) {
                String parameters = Arrays.toString(method.getParameterTypes()).replaceAll("[\\[\\] ]", "");
                found.add(method.getReturnType() + " " + method.getName() + "(" + parameters + ")");
                publicNames.add(method.getName());
                due.same(method.getName() + " is public", Modifier.isPublic(method.getModifiers()), true);
                boolean throwing = method.getName().equals("whole") || method.getName().equals("row");
                due.same(method.getName() + " says that it throws", Arrays.toString(method.getExceptionTypes()),
                        throwing ? "[class java.util.NoSuchElementException]" : "[]");
            }
        }
        for (Method method : HeckeSeries.class.getDeclaredMethods()) {
            boolean named = publicNames.contains(method.getName());
            due.same(method + " bears a public name", named, isOpen(method));
        }
        due.same("methods", String.join("; ", found), FACE);
        for (Field field : HeckeSeries.class.getDeclaredFields()) {
            due.same("field " + field.getName(), isOpen(field), field.getName().equals("NONE"));
        }
        constantAndConstructor();
        for (Class<?> type : HeckeSeries.class.getDeclaredClasses()) {
            for (Method method : type.getDeclaredMethods()) {
                due.same(method.getName(), publicNames.contains(method.getName()), false);
            }
        }
    }

    private static void constantAndConstructor() {
        try {
            Field none = HeckeSeries.class.getDeclaredField("NONE");
            due.same("NONE", Modifier.toString(none.getModifiers()) + " " + none.getType() + " " + none.get(null),
                    "public static final int -1");
        } catch (ReflectiveOperationException e) {
            due.same("NONE", e, "public static final int -1");
        }
        Constructor<?>[] constructors = HeckeSeries.class.getDeclaredConstructors();
        due.same("constructors", constructors.length + " " + constructors[0], "1 public HeckeSeries()");
    }

    private static boolean isOpen(Member member) {
        return !Modifier.isPrivate(member.getModifiers());
    }

    private static void nestedClasses() {
        due.part("classes");
        Class<?>[] types = HeckeSeries.class.getDeclaredClasses();
        due.same("at most twelve", types.length + 1 <= 12, true);
        for (Class<?> type : types) {
            due.same(type.getName(), Modifier.isStatic(type.getModifiers()), true);
            int fields = 0;
            for (Field field : type.getDeclaredFields()) {
                boolean isStatic = Modifier.isStatic(field.getModifiers());
                fields += isStatic ? 0 : 1;
                due.same(field.toString(), !isStatic || isConstant(field), true);
            }
            due.same(type.getName() + " has few fields", fields <= 20, true);
            for (Method method : type.getDeclaredMethods()) {
                due.same(method.getName(), method.getParameterCount() <= 7, true);
            }
        }
    }

    private static boolean isConstant(Field field) {
        Set<String> allowed = new TreeSet<>(Arrays.asList("int", "long", "boolean", "char", "int[]"));
        return Modifier.isFinal(field.getModifiers()) && allowed.contains(field.getType().getSimpleName());
    }

    private static void text() throws IOException {
        due.part("text");
        String[] lines = Files.readString(Path.of("src/main/java/HeckeSeries.java")).split("\n");
        int imports = 0;
        for (int i = 0; i < lines.length; i++) {
            String line = lines[i].replaceAll("\"[^\"]*\"", "\"\"").replaceAll("//.*|^ *(/\\*\\*|\\*).*", "");
            imports += line.startsWith("import") ? 1 : 0;
            for (String pattern : FORBIDDEN) {
                boolean holds = Pattern.compile(pattern).matcher(line).find();
                due.same("line " + (i + 1) + " holds " + pattern, holds && !isClassLine(line), false);
            }
            due.same("line " + (i + 1) + " is ASCII", lines[i].chars().allMatch(c -> c >= 32 && c < 127), true);
        }
        due.same("imports", imports, 2);
        lengths(lines);
    }

    /** Methods stand four or eight blanks in, and end with a bracket as far in. */
    private static void lengths(String[] lines) {
        Pattern beginning = Pattern.compile("( {4}| {8})(?! |if |for |while |switch |else |do )[\\w\\[\\] ]+\\(.*");
        int methods = 0;
        for (int i = 0; i < lines.length; i++) {
            Matcher matcher = beginning.matcher(lines[i]);
            if (matcher.matches() && lines[i].endsWith("{")) {
                int end = i;
                while (end < lines.length && !lines[end].equals(matcher.group(1) + "}")) {
                    end++;
                }
                methods++;
                due.same("line " + (i + 1) + " begins a short method", end - i < 60, true);
            }
        }
        due.same("methods found: " + methods, methods > 100, true);
    }

    private static boolean isClassLine(String line) {
        return line.contains(" class ");
    }
}
