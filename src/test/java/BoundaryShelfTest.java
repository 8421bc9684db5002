/** The boundary cases of promises 25 to 28: rows of two shelves, their sorts, images. */
public final class BoundaryShelfTest {
    private static final int LEAST = Boundary.LEAST;
    private static final int MOST = Boundary.MOST;
    private static final int[] NO_SHELVES = {LEAST, -2, -1, 2, 3, MOST};
    private static final int[] NO_ROWS = {LEAST, -2, -1, 4, 5, MOST};
    private static final long[] TAU =
        {0, 1, -24, 252, -1472, 4830, -6048, -16744, 84480, -113643, -115920, 534612, -370944};

    private static final Boundary b = new Boundary();

    public static void main(String[] args) {
        shelvesAtFirst();
        leftRows();
        traceRows();
        weightIsOfNoMatter();
        noSuchPut();
        anotherSort();
        hugeTraces();
        noSuchWeight();
        lastNumbers();
        emptyRows();
        swapping();
        newBook();
        imagesLaid();
        imagesHold();
        noSuchImage();
        nothingInIt();
        otherSorts();
        sortsAreNotHeld();
        b.end();
    }

    private static HeckeSeries withDelta() {
        HeckeSeries x = Due.with("let a be delta;let b be four^15;");
        x.take(0, 0);
        return x;
    }

    private static void shelvesAtFirst() {
        b.sentence("terms", "SHELF 0 has the first sort at first, SHELF 1 the second one; all ROWS empty");
        for (int row = 0; row < 4; row++) {
            int at = row;
            for (int shelf = 0; shelf < 2; shelf++) {
                int of = shelf;
                for (int i = 0; i <= 12; i++) {
                    int number = i;
                    b.answers("row " + shelf + ", " + row, new HeckeSeries(), x -> x.row(of, at, number), Due.THROWS);
                }
            }
            b.answers("left ones on 0", new HeckeSeries(), x -> x.put(0, at, false, 0), true);
            b.answers("traces on 0", new HeckeSeries(), x -> x.put(0, at, true, 12), false);
            b.answers("left ones on 1", new HeckeSeries(), x -> x.put(1, at, false, 0), false);
            b.answers("traces on 1", new HeckeSeries(), x -> x.put(1, at, true, 12), true);
        }
    }

    private static void leftRows() {
        b.sentence("promise 25", "A ROW (0 to 3) of a SHELF (0, 1) becomes COEFFICIENTS 0 to 12 of REGISTER 0 (traces not so)");
        for (int row = 0; row < 4; row++) {
            HeckeSeries x = withDelta();
            b.same("put", x.put(0, row, false, 0), true);
            for (int i = 0; i <= 12; i++) {
                b.same("number " + i, x.row(0, row, i), Math.floorMod(TAU[i], 1009L));
            }
            for (int other = 0; other < 8; other++) {
                int at = other;
                if (other != row) {
                    b.answers("others stay empty", x, y -> y.row(at / 4, at % 4, 0), Due.THROWS);
                }
            }
        }
        HeckeSeries last = withDelta();
        last.take(0, 1);
        last.put(0, 0, false, 0);
        for (int i = 0; i <= 12; i++) {
            b.same("of weight 60", last.row(0, 0, i), last.coefficient(0, i));
        }
        HeckeSeries other = withDelta();
        other.take(1, 1);
        other.put(0, 0, false, 0);
        b.same("of register 0, no other", other.row(0, 0, 0), 0);
    }

    private static void traceRows() {
        b.sentence("promise 25", "or TRACES of a WEIGHT, n 1 to 12: true;");
        for (int row = 0; row < 4; row++) {
            HeckeSeries x = new HeckeSeries();
            b.same("put", x.put(1, row, true, 12), true);
            for (int i = 0; i < 12; i++) {
                b.same("number " + i, x.row(1, row, i), TAU[i + 1]);
            }
        }
        HeckeSeries x = new HeckeSeries();
        b.same("the least weight", x.put(1, 0, true, 4), true);
        b.same("its first", x.row(1, 0, 0), 0);
        b.same("its last", x.row(1, 0, 11), 0);
        for (int weight = 4; weight <= 32; weight += 2) {
            b.same("weight " + weight, x.put(1, 1, true, weight), true);
            b.same("its first", x.row(1, 1, 0), x.makes(weight, true));
            b.same("its last", x.row(1, 1, 11), x.trace(weight, 12));
        }
    }

    private static void weightIsOfNoMatter() {
        b.sentence("promise 25", "(Without traces weight is of no matter.)");
        for (int weight : new int[] {LEAST, -2, -1, 0, 1, 2, 3, 12, 60, 61, 62, MOST}) {
            HeckeSeries x = withDelta();
            b.same("put with " + weight, x.put(0, 3, false, weight), true);
            b.same("its number 2", x.row(0, 3, 2), 985);
        }
    }

    private static void noSuchPut() {
        b.sentence("promise 25", "false: none such, another sort of SHELF (asked last), a TRACE is HUGE.");
        for (int shelf : NO_SHELVES) {
            b.leavesAll("shelf " + shelf, Rich.Sort.RICH, x -> x.put(shelf, 0, false, 12), false);
            b.leavesAll("shelf " + shelf, Rich.Sort.RICH, x -> x.put(shelf, 0, true, 12), false);
        }
        for (int row : NO_ROWS) {
            b.leavesAll("row " + row, Rich.Sort.RICH, x -> x.put(0, row, false, 12), false);
            b.leavesAll("row " + row, Rich.Sort.RICH, x -> x.put(1, row, true, 12), false);
        }
    }

    private static void anotherSort() {
        b.sentence("promise 25", "another sort of SHELF (asked last)");
        for (int row = 0; row < 4; row++) {
            int at = row;
            b.leavesAll("traces on 0", Rich.Sort.RICH, x -> x.put(0, at, true, 12), false);
            b.leavesAll("left ones on 1", Rich.Sort.RICH, x -> x.put(1, at, false, 12), false);
            b.leavesAll("left ones on 0, swapped", Rich.Sort.SWAPPED, x -> x.put(0, at, false, 12), false);
            b.leavesAll("traces on 1, swapped", Rich.Sort.SWAPPED, x -> x.put(1, at, true, 12), false);
        }
    }

    private static void hugeTraces() {
        b.sentence("promise 25", "a TRACE is HUGE.");
        for (int weight = 34; weight <= 60; weight += 2) {
            int of = weight;
            b.leavesAll("an empty row, " + of, Rich.Sort.RICH, x -> x.put(1, 0, true, of), false);
            b.leavesAll("a full row, " + of, Rich.Sort.RICH, x -> x.put(1, 1, true, of), false);
        }
        b.same("the last without", new HeckeSeries().put(1, 0, true, 32), true);
        b.same("of 34 only the twelfth is", new HeckeSeries().trace(34, 11) != Long.MIN_VALUE, true);
    }

    private static void noSuchWeight() {
        b.sentence("promise 25", "false: none such, another sort of SHELF");
        for (int weight : new int[] {LEAST, -4, -2, -1, 0, 1, 2, 3, 5, 13, 31, 33, 61, 62, MOST}) {
            b.leavesAll("an empty row, " + weight, Rich.Sort.RICH, x -> x.put(1, 0, true, weight), false);
            b.leavesAll("a full row, " + weight, Rich.Sort.RICH, x -> x.put(1, 1, true, weight), false);
            b.leavesAll("another sort, " + weight, Rich.Sort.RICH, x -> x.put(0, 0, true, weight), false);
        }
    }

    private static void lastNumbers() {
        b.sentence("promise 26", "Number i (0 to 12; of TRACES 0 to 11) of a ROW;");
        b.leavesAll("left, the first", Rich.Sort.RICH, x -> x.row(0, 1, 0), 6);
        b.leavesAll("left, the last", Rich.Sort.RICH, x -> x.row(0, 1, 12), 6 * 240 * 2044 % 211);
        b.leavesAll("traces, the first", Rich.Sort.RICH, x -> x.row(1, 1, 0), 1);
        b.leavesAll("traces, the last", Rich.Sort.RICH, x -> x.row(1, 1, 11), new HeckeSeries().trace(16, 12));
        for (int i : new int[] {LEAST, -2, -1, 13, 14, MOST}) {
            b.leavesAll("left " + i, Rich.Sort.RICH, x -> x.row(0, 1, i), Due.THROWS);
            b.leavesAll("left " + i + ", swapped", Rich.Sort.SWAPPED, x -> x.row(1, 2, i), Due.THROWS);
        }
        for (int i : new int[] {LEAST, -2, -1, 12, 13, MOST}) {
            b.leavesAll("traces " + i, Rich.Sort.RICH, x -> x.row(1, 1, i), Due.THROWS);
            b.leavesAll("traces " + i + ", swapped", Rich.Sort.SWAPPED, x -> x.row(0, 2, i), Due.THROWS);
        }
        b.leavesAll("left, the last, swapped", Rich.Sort.SWAPPED, x -> x.row(1, 2, 12), 6 * 240 * 2044 % 211);
        b.leavesAll("traces, the last, swapped", Rich.Sort.SWAPPED, x -> x.row(0, 2, 11),
                new HeckeSeries().trace(24, 12));
    }

    private static void emptyRows() {
        b.sentence("promise 26", "NoSuchElementException: others, it is empty.");
        int[][] empty = {{0, 2}, {1, 0}, {1, 3}};
        for (int[] at : empty) {
            for (int i : new int[] {0, 11, 12}) {
                b.leavesAll("row " + at[0] + ", " + at[1], Rich.Sort.RICH, x -> x.row(at[0], at[1], i), Due.THROWS);
            }
        }
        for (int shelf : NO_SHELVES) {
            b.leavesAll("shelf " + shelf, Rich.Sort.RICH, x -> x.row(shelf, 1, 0), Due.THROWS);
        }
        for (int row : NO_ROWS) {
            b.leavesAll("row " + row, Rich.Sort.RICH, x -> x.row(0, row, 0), Due.THROWS);
            b.leavesAll("row " + row, Rich.Sort.RICH, x -> x.row(1, row, 0), Due.THROWS);
        }
    }

    private static void isEmpty(HeckeSeries x) {
        for (int place = 0; place < 8; place++) {
            int at = place;
            b.answers("row " + place / 4 + ", " + place % 4, x, y -> y.row(at / 4, at % 4, 0), Due.THROWS);
        }
    }

    private static void fill(HeckeSeries x) {
        for (int place = 0; place < 8; place++) {
            b.same("put", x.put(place / 4, place % 4, false, 0) || x.put(place / 4, place % 4, true, 12), true);
        }
    }

    private static void swapping() {
        b.sentence("promise 27", "Both SHELVES change their sorts (all ROWS are empty then): the sort of SHELF 0 (0 LEFT, 1 TRACES).");
        HeckeSeries x = withDelta();
        for (int times = 1; times <= 4; times++) {
            fill(x);
            boolean traces = times % 2 == 1;
            b.same("swap " + times, x.swap(), traces ? 1 : 0);
            isEmpty(x);
            b.same("left ones on 0", x.put(0, 0, false, 0), !traces);
            b.same("traces on 0", x.put(0, 0, true, 12), traces);
            b.same("left ones on 1", x.put(1, 0, false, 0), traces);
            b.same("traces on 1", x.put(1, 0, true, 12), !traces);
            b.same("registers stay", x.coefficient(0, 2), 985);
        }
        HeckeSeries y = Rich.Sort.RICH.made();
        y.swap();
        for (int what = 0; what < 4; what++) {
            b.same("count " + what + " stays", y.count(what), new int[] {211, 6, 20, 1}[what]);
        }
    }

    private static void newBook() {
        b.sentence("terms", "all ROWS empty (with a new BOOK, too; sorts stay then).");
        HeckeSeries x = withDelta();
        for (int times = 1; times <= 2; times++) {
            fill(x);
            b.same("a book", x.book(0), 0);
            isEmpty(x);
            for (int r = 0; r < 4; r++) {
                b.same("ONE", x.weight(r) + x.coefficient(r, 0), 1);
            }
            b.same("left ones on 0", x.put(0, 0, false, 0), times == 1);
            b.same("traces on 0", x.put(0, 0, true, 12), times == 2);
            b.same("swap", x.swap(), times % 2);
        }
    }

    private static void imagesLaid() {
        b.sentence("promise 28", "IMAGE k is laid (back: all is as in it, if SHELVES have the sorts that they had): true;");
        for (int k = 0; k < 2; k++) {
            HeckeSeries x = withDelta();
            fill(x);
            b.same("laid", x.image(k, false), true);
            b.same("one holds something", x.count(3), 1);
            b.same("the other holds nothing", x.image(1 - k, true), false);
            x.take(0, 1);
            x.take(3, 1);
            x.put(0, 0, false, 0);
            x.put(1, 3, true, 24);
            b.same("back", x.image(k, true), true);
            b.same("register 0", x.coefficient(0, 2), 985);
            b.same("register 3", x.weight(3), 0);
            b.same("a left row", x.row(0, 0, 2), 985);
            b.same("a row of traces", x.row(1, 3, 1), -24);
            b.same("laid anew", x.image(k, false), true);
            b.same("still one", x.count(3), 1);
        }
    }

    private static void imagesHold() {
        b.sentence("terms", "IMAGES 0, 1 hold REGISTERS and what is in ROWS (not their sorts).");
        HeckeSeries x = withDelta();
        x.image(0, false);
        fill(x);
        x.take(0, 1);
        x.image(1, false);
        b.same("back to empty rows", x.image(0, true), true);
        isEmpty(x);
        b.same("register", x.weight(0), 12);
        b.same("on to full ones", x.image(1, true), true);
        b.same("register", x.weight(0), 60);
        b.same("left", x.row(0, 3, 2), 985);
        b.same("traces", x.row(1, 3, 11), TAU[12]);
        Due.feed(x, new byte[20]);
        b.same("back", x.image(0, true), true);
        b.same("the tape is not in it", x.count(2), 20);
        b.same("lets are not in it", x.count(1), 2);
        b.same("both hold still", x.count(3), 2);
        x.plus(0, 0, 1);
        b.same("back again", x.image(0, true), true);
        b.same("the image did not change", x.coefficient(0, 1), 1);
    }

    private static void noSuchImage() {
        b.sentence("promise 28", "false: none such, (back) nothing is in it, or other sorts.");
        for (int k : new int[] {LEAST, -2, -1, 2, 3, MOST}) {
            b.leavesAll("lay " + k, Rich.Sort.RICH, x -> x.image(k, false), false);
            b.leavesAll("back " + k, Rich.Sort.RICH, x -> x.image(k, true), false);
        }
    }

    private static void nothingInIt() {
        b.sentence("promise 28", "(back) nothing is in it, or other sorts.");
        b.leavesAll("image 1", Rich.Sort.RICH, x -> x.image(1, true), false);
        b.leavesAll("image 0 of a new one", Rich.Sort.NEW, x -> x.image(0, true), false);
        b.leavesAll("image 1 of a new one", Rich.Sort.NEW, x -> x.image(1, true), false);
        HeckeSeries x = withDelta();
        x.image(0, false);
        x.image(1, false);
        x.book(0);
        b.same("image 0 behind a book", x.image(0, true), false);
        b.same("image 1 behind a book", x.image(1, true), false);
    }

    private static void otherSorts() {
        b.sentence("promise 28", "or other sorts.");
        b.leavesAll("image 0 has other sorts", Rich.Sort.SWAPPED, x -> x.image(0, true), false);
        HeckeSeries x = Rich.Sort.SWAPPED.made();
        b.same("image 1 has these", x.image(1, true), true);
        b.same("its row", x.row(0, 2, 0), 2);
        b.answers("empty in it", x, y -> y.row(0, 3, 0), Due.THROWS);
        b.same("its register", x.weight(0), 4);
        b.same("swap", x.swap(), 0);
        b.same("image 1 has others now", x.image(1, true), false);
        b.same("image 0 has these", x.image(0, true), true);
        b.same("its row", x.row(1, 2, 0), 2);
        b.same("its register", x.weight(0), 12);
    }

    private static void sortsAreNotHeld() {
        b.sentence("terms", "what is in ROWS (not their sorts).");
        HeckeSeries x = withDelta();
        x.image(0, false);
        x.swap();
        b.same("empty rows of other sorts", x.image(0, true), false);
        b.same("sorts stay", x.put(0, 0, true, 12), true);
        b.same("swap back", x.swap(), 0);
        b.same("sorts as they were", x.image(0, true), true);
        b.same("laying asks no sorts", x.swap() == 1 && x.image(0, false), true);
        b.same("back", x.image(0, true), true);
        b.same("sorts stay", x.swap(), 0);
    }
}
