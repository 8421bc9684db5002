import java.io.IOException;
import java.nio.file.Files;
import java.nio.file.Path;
import java.util.HashMap;
import java.util.Map;

/** What the tests of boundary cases share: a sentence of the document, and what a call leaves as it was. */
final class Boundary {
    static final int LEAST = Integer.MIN_VALUE;
    static final int MOST = Integer.MAX_VALUE;

    private static final Path DOCUMENT = Path.of("../shared/DOC.md");

    private final Due due = new Due();
    private final Map<String, String> untouched = new HashMap<>();
    private final String document = documentInOneLine();
    private int sentences;

    interface Asked {
        Object of(HeckeSeries x);
    }

    /** The tests that follow are those of these words of the document. */
    void sentence(String where, String words) {
        due.part(where + ", \"" + words + "\"");
        sentences++;
        if (!document.isEmpty() && !document.contains(words)) {
            System.out.println("note: no longer in the document: " + words);
        }
    }

    private static String documentInOneLine() {
        try {
            return Files.readString(DOCUMENT).replaceAll("\\s+", " ");
        } catch (IOException e) {
            return "";
        }
    }

    void same(String what, Object got, Object want) {
        due.same(what, got, want);
    }

    void answers(String what, HeckeSeries x, Asked call, Object want) {
        due.call(what, () -> call.of(x), want);
    }

    /** The call answers so, and the object reads as one of the same sort that never had it. */
    void leavesAll(String what, Rich.Sort sort, Asked call, Object want) {
        leavesAs(what, sort, sort, call, want);
    }

    /** Behind the call an object of the one sort reads as one of the other. */
    void leavesAs(String what, Rich.Sort sort, Rich.Sort as, Asked call, Object want) {
        HeckeSeries x = sort.made();
        answers(what, x, call, want);
        String other = untouched.computeIfAbsent(as.name(), name -> Rich.reading(as.made()));
        due.same(what + ": all behind it", Rich.reading(x), other);
    }

    void end() {
        System.out.print(sentences + " sentences, ");
        due.end();
    }
}
