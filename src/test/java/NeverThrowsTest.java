import java.lang.management.ManagementFactory;
import java.lang.reflect.InvocationTargetException;
import java.lang.reflect.Method;
import java.lang.reflect.Modifier;
import java.util.ArrayList;
import java.util.List;
import java.util.NoSuchElementException;
import java.util.Random;

/** Any arguments in any state: only whole and row throw, what they may; and a run's room is small. */
public final class NeverThrowsTest {
    private static final int RUNS = 400;
    /** What later calls of an object answer is free. */
    private static final int CALLS = 512;
    /** The longest of the random texts, fed twenty bytes at a time, and its book. */
    private static final int CALLS_OF_A_BOOK = 16;
    private static final int[] EDGES = {Integer.MIN_VALUE, Integer.MIN_VALUE + 1, -61, -5, -2, -1, 0, 1, 2, 3, 4,
        5, 6, 12, 13, 14, 24, 26, 30, 31, 36, 48, 50, 58, 59, 60, 61, 62, 180, 181, 600, 601, 2000, 2001,
        Integer.MAX_VALUE - 1, Integer.MAX_VALUE};
    private static final String[] PIECES = {"let ", "a ", "b ", "c ", "be ", "prime ", "four", "six", "delta", "(", ")",
        "+", "-", "*", "^", ";", "0 ", "1 ", "2 ", "5 ", "15 ", "16 ", "101 ", "9973 ", "99999 ", "\n", "$", "\u00e9",
        "let a be four;", "let b be six^2;", "let c be delta*delta;", "prime 211;", "let d be (four*six)^3;"};

    private static final Due due = new Due();

    public static void main(String[] args) {
        List<Method> calls = new ArrayList<>();
        for (Method method : HeckeSeries.class.getDeclaredMethods()) {
            if (Modifier.isPublic(method.getModifiers())) {
                calls.add(method);
            }
        }
        calls.sort((a, b) -> a.getName().compareTo(b.getName()));
        due.same("calls", calls.size(), 27);
        for (int run = 0; run < RUNS; run++) {
            oneRun(new Random(run), calls);
        }
        room();
        due.end();
    }

    private static void oneRun(Random random, List<Method> calls) {
        HeckeSeries x = new HeckeSeries();
        int made = 0;
        while (made < CALLS) {
            if (random.nextInt(6) == 0 && made + CALLS_OF_A_BOOK <= CALLS) {
                String text = text(random);
                due.same("a book", Due.book(x, text) != Integer.MAX_VALUE, true);
                made += (text.length() + 19) / 20 + 1;
                continue;
            }
            made++;
            Method method = calls.get(random.nextInt(calls.size()));
            Class<?>[] types = method.getParameterTypes();
            Object[] arguments = new Object[types.length];
            for (int i = 0; i < types.length; i++) {
                arguments[i] = types[i] == boolean.class ? (Object) random.nextBoolean() : (Object) number(random);
            }
            due.same(method.getName(), mayAnswer(x, method, arguments), true);
        }
    }

    private static int number(Random random) {
        return random.nextInt(3) == 0 ? EDGES[random.nextInt(EDGES.length)]
                : random.nextBoolean() ? random.nextInt(4) : 2 * random.nextInt(31);
    }

    private static String text(Random random) {
        StringBuilder text = new StringBuilder();
        for (int i = random.nextInt(12); i >= 0; i--) {
            text.append(PIECES[random.nextInt(PIECES.length)]);
        }
        return text.toString();
    }

    private static boolean mayAnswer(HeckeSeries x, Method method, Object[] arguments) {
        try {
            method.invoke(x, arguments);
            return true;
        } catch (InvocationTargetException e) {
            boolean may = method.getName().equals("whole") || method.getName().equals("row");
            return may && e.getCause().getClass() == NoSuchElementException.class;
        } catch (IllegalAccessException e) {
            return false;
        }
    }

    /** After its first use of a weight, an object makes nothing more, with another prime either. */
    private static void room() {
        due.part("room");
        com.sun.management.ThreadMXBean threads =
                (com.sun.management.ThreadMXBean) ManagementFactory.getThreadMXBean();
        long self = Thread.currentThread().getId();
        long before = threads.getThreadAllocatedBytes(self);
        HeckeSeries x = new HeckeSeries();
        long made = threads.getThreadAllocatedBytes(self);
        useAll(x, 2);
        long used = threads.getThreadAllocatedBytes(self);
        // "prime 101;", in numbers, as a text would take room of its own
        x.feed(0x7072696d, 0x65203130, 0x313b2020, 0x20202020, 0x20202020);
        due.same("another prime", x.book(20) + x.count(0), 101);
        useAll(x, 8);
        long again = threads.getThreadAllocatedBytes(self);
        due.same("a new object: " + (made - before) + " bytes", made - before < 60_000, true);
        due.same("all weights: " + (used - made) + " bytes", used - made < 200_000, true);
        due.same("once more: " + (again - used) + " bytes", again - used < 5_000, true);
    }

    /** Weights from 0 on; both uses of the room's object have fewer than 512 calls together. */
    private static void useAll(HeckeSeries x, int step) {
        for (int weight = 0; weight <= 60; weight += step) {
            x.root(weight, -1);
            x.own(weight % 4, weight, 0);
            x.table(weight, 30, 1, 1);
            x.polynomial(weight, 30, 0);
            x.coefficient(weight % 4, 180);
            x.hecke(weight % 4, 30);
            x.multiplies(weight % 4, 29);
            x.plus(0, 1, 5);
            x.times(1, 2);
            x.traceLeft(weight, 60);
            x.share(weight, 7);
            x.put(1, 1, true, weight);
        }
        x.put(0, 1, false, 0);
        x.image(0, false);
        x.image(0, true);
    }
}
