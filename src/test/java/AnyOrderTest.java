import java.util.HashMap;
import java.util.Map;

/** What an object was asked ahead of a call, with this prime or another, changes no answer of it. */
public final class AnyOrderTest {
    private static final String[] BOOKS = {"", "prime 101;", "prime 9973;", ""};

    private static final Due due = new Due();
    private static final Map<String, Long> known = new HashMap<>();

    private interface Asked {
        long of(HeckeSeries x, int weight);
    }

    /** Each needs another part of what a weight's forms tell: near coefficients, far ones, roots. */
    private static final Asked[] CALLS = {
        (x, weight) -> x.polynomial(weight, 2, 0),
        (x, weight) -> x.polynomial(weight, 30, 0),
        (x, weight) -> x.root(weight, 0),
        (x, weight) -> x.own(0, weight, 0),
        (x, weight) -> x.coefficient(0, 7),
        (x, weight) -> x.coefficient(0, 180)};

    public static void main(String[] args) {
        for (int first = 0; first <= 60; first += 2) {
            for (int second = 0; second <= 60; second += 2) {
                twoWeights(first, second);
            }
        }
        for (int call = 0; call < CALLS.length; call++) {
            allWeights(call, 2);
            allWeights(call, -2);
        }
        due.end();
    }

    /** The second weight's answers behind the first one's, in each book, against those of new objects. */
    private static void twoWeights(int first, int second) {
        for (int near = 0; near < 2; near++) {
            HeckeSeries x = new HeckeSeries();
            for (int i = 0; i < BOOKS.length; i++) {
                Due.book(x, BOOKS[i]);
                CALLS[near].of(x, i % 2 == 0 ? first : second);
                String what = "book " + i + ", " + first + " then " + second + ", call ";
                for (int call = 0; call < CALLS.length; call++) {
                    due.same(what + call, CALLS[call].of(x, second), alone(BOOKS[i], call, second));
                }
            }
        }
    }

    /** One call for all weights, upwards or downwards, with a new prime each time. */
    private static void allWeights(int call, int step) {
        HeckeSeries x = new HeckeSeries();
        for (int i = 0; i <= 30; i++) {
            int weight = step > 0 ? 2 * i : 60 - 2 * i;
            String book = BOOKS[i % 3];
            Due.book(x, book);
            x.own(0, weight, 0);
            due.same("weight " + weight + ", call " + call, CALLS[call].of(x, weight), alone(book, call, weight));
        }
    }

    /** The answer of an object that was asked nothing else, but for the form that is looked at. */
    private static long alone(String book, int call, int weight) {
        return known.computeIfAbsent(book + " " + call + " " + weight, key -> {
            HeckeSeries x = Due.with(book);
            if (call > 3) {
                x.own(0, weight, 0);
            }
            return CALLS[call].of(x, weight);
        });
    }
}
