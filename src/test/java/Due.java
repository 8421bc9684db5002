import java.nio.charset.StandardCharsets;
import java.util.Arrays;
import java.util.NoSuchElementException;

/** What the tests share: answers against what is due, and texts as bytes on the tape. */
final class Due {
    /** Stands for an answer that is a NoSuchElementException. */
    static final String THROWS = "throws.NoSuchElementException";

    private int wrong;
    private int asked;
    private String part = "";

    interface Call {
        Object answer();
    }

    void part(String name) {
        part = name;
    }

    void same(String what, Object got, Object due) {
        asked++;
        if (!got.toString().equals(due.toString())) {
            wrong++;
            System.out.println(part + ": " + what + " answered " + got + ", due is " + due);
        }
    }

    void call(String what, Call call, Object due) {
        same(what, answerOf(call), due);
    }

    static Object answerOf(Call call) {
        try {
            return call.answer();
        } catch (NoSuchElementException e) {
            return THROWS;
        }
    }

    /** Lays bytes on the tape with blanks behind them, as twenty come at a time. */
    static void feed(HeckeSeries x, byte[] bytes) {
        for (int from = 0; from < bytes.length; from += 20) {
            byte[] twenty = new byte[20];
            Arrays.fill(twenty, (byte) ' ');
            System.arraycopy(bytes, from, twenty, 0, Math.min(20, bytes.length - from));
            x.feed(number(twenty, 0), number(twenty, 4), number(twenty, 8), number(twenty, 12),
                    number(twenty, 16));
        }
    }

    private static int number(byte[] bytes, int at) {
        return (bytes[at] & 255) << 24 | (bytes[at + 1] & 255) << 16 | (bytes[at + 2] & 255) << 8
                | (bytes[at + 3] & 255);
    }

    static int book(HeckeSeries x, String text) {
        byte[] bytes = text.getBytes(StandardCharsets.ISO_8859_1);
        feed(x, bytes);
        return x.book(bytes.length);
    }

    /** A new object with a book that must have no fault. */
    static HeckeSeries with(String text) {
        HeckeSeries x = new HeckeSeries();
        int lets = book(x, text);
        if (lets < 0) {
            throw new IllegalStateException("a test's book has a fault: " + text + " " + lets);
        }
        return x;
    }

    static int fault(int kind, int place) {
        return -2 - (8 * place + kind);
    }

    void end() {
        System.out.println(asked + " asked, " + wrong + " wrong");
        if (wrong != 0 || asked == 0) {
            System.exit(1);
        }
    }
}
