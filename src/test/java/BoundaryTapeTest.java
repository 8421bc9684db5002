/** The boundary cases of promises 1 to 5: a new object, the tape, a book as a whole, counts, lets. */
public final class BoundaryTapeTest {
    private static final int LEAST = Boundary.LEAST;
    private static final int MOST = Boundary.MOST;
    private static final int BLANKS = 0x20202020;
    private static final String SIX_LETS =
            "let a be 0;let b be 1;let c be 1008*four;let d be 1009*four;let e be delta;let f be four^15;";

    private static final Boundary b = new Boundary();

    public static void main(String[] args) {
        newObject();
        twentyBytes();
        highestFirst();
        moreThan600();
        firstBytes();
        emptyThen();
        howManyLets();
        noImages();
        anotherPrime();
        notSoMany();
        faultAsANumber();
        allElseStays();
        counts();
        otherCounts();
        lets();
        otherLets();
        lastCall();
        b.end();
    }

    private static HeckeSeries withBytes(int bytes) {
        HeckeSeries x = new HeckeSeries();
        for (int i = 0; i < bytes; i += 20) {
            x.feed(BLANKS, BLANKS, BLANKS, BLANKS, BLANKS);
        }
        return x;
    }

    private static void newObject() {
        b.sentence("promise 1", "As told of a BOOK of nothing.");
        b.same("NONE", HeckeSeries.NONE, -1);
        b.leavesAll("a BOOK of nothing", Rich.Sort.NEW, x -> x.book(0), 0);
        b.leavesAs("a BOOK of nothing, later", Rich.Sort.RICH, Rich.Sort.NEW, x -> x.book(0), 0);
        HeckeSeries x = new HeckeSeries();
        for (int what = 0; what < 4; what++) {
            b.same("count " + what, x.count(what), new int[] {1009, 0, 0, 0}[what]);
        }
        b.same("no let", x.let(0, 0), -1);
    }

    private static void twentyBytes() {
        b.sentence("promise 2", "Twenty bytes come behind THE TAPE, of each number the highest first: how many it has;");
        HeckeSeries x = new HeckeSeries();
        for (int i = 1; i <= 30; i++) {
            b.same("feed " + i, x.feed(BLANKS, BLANKS, BLANKS, BLANKS, BLANKS), 20 * i);
            b.same("bytes", x.count(2), 20 * i);
        }
        HeckeSeries y = new HeckeSeries();
        Due.feed(y, "let abcdef be six  ;".getBytes());
        Due.feed(y, "let b be abcdef*six;".getBytes());
        b.same("the second behind the first", y.book(40), 2);
        b.same("its weight", y.let(1, 0), 12);
    }

    private static void highestFirst() {
        b.sentence("promise 2", "of each number the highest first");
        b.same("each byte in its place", feedAndBook(0x6c657420, 0x61626320, 0x62652031, 0x322a7369, 0x785e333b), 1);
        int[] numbers = new int[5];
        for (int place = 0; place < 20; place++) {
            for (int sign : new int[] {0, 1, 127, 128, 255}) {
                java.util.Arrays.fill(numbers, BLANKS);
                int shift = 24 - place % 4 * 8;
                numbers[place / 4] = BLANKS & ~(255 << shift) | sign << shift;
                b.same("byte " + sign + " at " + place,
                        feedAndBook(numbers[0], numbers[1], numbers[2], numbers[3], numbers[4]), Due.fault(1, place));
            }
        }
    }

    private static int feedAndBook(int first, int second, int third, int fourth, int fifth) {
        HeckeSeries x = new HeckeSeries();
        x.feed(first, second, third, fourth, fifth);
        return x.book(20);
    }

    private static void moreThan600() {
        b.sentence("promise 2", "NONE, and none come, if it would have more than 600.");
        HeckeSeries x = withBytes(580);
        b.same("the last twenty", x.feed(BLANKS, BLANKS, BLANKS, BLANKS, BLANKS), 600);
        b.same("twenty more", x.feed(BLANKS, BLANKS, BLANKS, BLANKS, BLANKS), -1);
        b.same("and again", x.feed(0, LEAST, MOST, -1, 1), -1);
        b.same("none come", x.count(2), 600);
        b.same("blanks still", x.book(600), 0);
        b.same("empty again", x.feed(BLANKS, BLANKS, BLANKS, BLANKS, BLANKS), 20);
        b.leavesAll("a full tape", Rich.Sort.RICH_WITH_FULL_TAPE, y -> y.feed(0, 0, 0, 0, 0), -1);
        b.leavesAll("a full tape", Rich.Sort.RICH_WITH_FULL_TAPE, y -> y.feed(-1, -1, -1, -1, -1), -1);
    }

    private static void firstBytes() {
        b.sentence("promise 3", "The first n bytes of THE TAPE");
        int[][] faults = {{1, 1}, {1, 1}, {1, 4}, {1, 5}, {1, 6}, {1, 7}, {1, 7}, {1, 9}, {1, 10}, {3, 10}, {3, 10},
            {1, 13}, {1, 14}, {3, 14}, {3, 14}, {3, 14}, {1, 18}};
        for (int n = 2; n <= 18; n++) {
            b.same("the first " + n, partOf(n), Due.fault(faults[n - 2][0], faults[n - 2][1]));
        }
        b.same("none", partOf(0), 0);
        b.same("a blank", partOf(1), 0);
        b.same("all but the last", partOf(19), 1);
        b.same("the last, too", partOf(20), Due.fault(1, 19));
        HeckeSeries x = withBytes(600);
        b.same("all 600", x.book(600), 0);
        b.same("none of 600", withBytes(600).book(0), 0);
        b.same("one less than all", withBytes(600).book(599), 0);
        b.same("a byte alone", withBytes(20).book(1), 0);
    }

    private static int partOf(int n) {
        HeckeSeries x = new HeckeSeries();
        Due.feed(x, "\nlet a be six*four;$".getBytes());
        return x.book(n);
    }

    private static void emptyThen() {
        b.sentence("promise 3", "(it is empty then)");
        for (int n : new int[] {0, 1, 19, 20}) {
            HeckeSeries x = withBytes(20);
            b.same("a book of " + n, x.book(n), 0);
            b.same("bytes", x.count(2), 0);
            b.same("no more of it", x.book(1), -1);
        }
        HeckeSeries x = withBytes(600);
        x.book(600);
        b.same("of 600", x.count(2), 0);
        Due.feed(x, "$".getBytes());
        b.same("a fault", x.book(1), Due.fault(1, 0));
        b.same("empty with a fault, too", x.count(2), 0);
    }

    private static void howManyLets() {
        b.sentence("promise 3", "are the BOOK: how many lets; no IMAGES.");
        HeckeSeries x = new HeckeSeries();
        String text = "";
        for (int lets = 0; lets <= 6; lets++) {
            b.same(lets + " lets", Due.book(x, text), lets);
            b.same("as many are told", x.count(1), lets);
            b.same("the last one", x.let(lets - 1, 0), lets == 0 ? -1 : 0);
            b.same("none behind it", x.let(lets, 0), -1);
            text = text + "let " + (char) ('a' + lets) + " be " + lets + ";";
        }
        b.same("none again", x.book(0), 0);
        b.same("the former ones are gone", x.let(0, 0), -1);
        b.same("and can't be taken", x.take(0, 0), -1);
    }

    private static void noImages() {
        b.sentence("promise 3", "are the BOOK: how many lets; no IMAGES.");
        HeckeSeries x = new HeckeSeries();
        x.image(0, false);
        x.image(1, false);
        b.same("two", x.count(3), 2);
        b.same("a book", x.book(0), 0);
        b.same("none", x.count(3), 0);
        b.same("image 0", x.image(0, true), false);
        b.same("image 1", x.image(1, true), false);
    }

    /** Whatever was worked out by the former prime is worked out anew. */
    private static void anotherPrime() {
        b.sentence("terms", "THE PRIME P is 101 to 9973 (1009 at first).");
        HeckeSeries x = new HeckeSeries();
        for (int round = 0; round < 2; round++) {
            for (int prime : new int[] {101, 9973, 107, 383}) {
                String text = "prime " + prime + ";let a be four^15;";
                HeckeSeries y = Due.with(text);
                b.same("a book", Due.book(x, text), 1);
                b.same("told by " + prime, numbersOf(x), numbersOf(y));
            }
        }
        b.same("a book without", x.book(0), 0);
        b.same("told by 1009", numbersOf(x), numbersOf(new HeckeSeries()));
    }

    private static String numbersOf(HeckeSeries x) {
        return x.table(60, 30, 5, 5) + " " + x.polynomial(48, 7, 0) + " " + x.root(60, -1) + " " + x.root(46, 0) + " "
                + x.root(28, 0) + " " + x.traceLeft(60, 60) + " " + x.own(1, 46, 0) + " " + x.coefficient(1, 180) + " "
                + x.take(0, 0) + " " + x.coefficient(0, 5) + " " + x.coefficient(0, 36) + " " + x.coefficient(0, 180)
                + " " + x.multiplies(1, 29) + " " + x.hecke(0, 30) + " " + x.coefficient(0, 0);
    }

    private static void notSoMany() {
        b.sentence("promise 3", "NONE: it has not so many, n is below 0 (THE TAPE stays).");
        for (int n : new int[] {21, 22, 40, 600, 601, MOST, -1, -2, -20, LEAST}) {
            b.leavesAll("book " + n + " of 20", Rich.Sort.RICH, x -> x.book(n), -1);
        }
        for (int n : new int[] {601, MOST, -1, LEAST}) {
            b.leavesAll("book " + n + " of 600", Rich.Sort.RICH_WITH_FULL_TAPE, x -> x.book(n), -1);
        }
        for (int n : new int[] {1, 20, MOST, -1, LEAST}) {
            b.leavesAll("book " + n + " of none", Rich.Sort.NEW, x -> x.book(n), -1);
        }
    }

    private static void faultAsANumber() {
        b.sentence("promise 3", "-2 less (8 * place + kind): a FAULT");
        b.same("kind 1 at 0", Due.book(new HeckeSeries(), "$"), -3);
        b.same("kind 1 at 1", Due.book(new HeckeSeries(), " $"), -11);
        b.same("kind 2", Due.book(new HeckeSeries(), "let a be 1;let a be 1;"), -2 - (8 * 15 + 2));
        b.same("kind 7", Due.book(new HeckeSeries(), "let a be delta^6;"), -2 - (8 * 9 + 7));
        b.same("kind 1 at 600", Due.book(new HeckeSeries(), " ".repeat(597) + "let"), -4803);
        b.same("kind 1 at 599", Due.book(new HeckeSeries(), " ".repeat(599) + "$"), -4795);
    }

    private static void allElseStays() {
        b.sentence("promise 3", "a FAULT (all else stays).");
        String[] faulty = {"prime 101;let a be six;$", "let a be six;let b be four;let a be 1;", "let q be a;",
            "prime 103;let a be 12345;", "let a be (((((((((1)))))))));", "let a be six;let b be four+six;",
            "let a be six;let b be delta^6;", "prime 9973", "prime 99;", "let"};
        for (String text : faulty) {
            b.leavesAs(text, Rich.Sort.RICH_WITHOUT_TAPE, Rich.Sort.RICH_WITHOUT_TAPE,
                    x -> Due.book(x, text) < -2, true);
            b.leavesAs(text, Rich.Sort.NEW, Rich.Sort.NEW, x -> Due.book(x, text) < -2, true);
        }
        b.leavesAs("a part of the tape", Rich.Sort.RICH, Rich.Sort.RICH_WITHOUT_TAPE, x -> x.book(18), Due.fault(1, 18));
        HeckeSeries x = Due.with("prime 383;");
        b.same("roots by 383", x.root(46, 2), 301);
        b.same("a fault behind another prime", Due.book(x, "prime 101;!"), Due.fault(1, 10));
        b.same("roots stay by 383", x.root(46, 2), 301);
        b.same("traces stay by 383", x.traceLeft(12, 2), 359);
    }

    private static void counts() {
        b.sentence("promise 4", "What 0: P, 1: lets, 2: bytes on THE TAPE, 3: IMAGES that hold something.");
        b.same("least P", Due.with("prime 101;").count(0), 101);
        b.same("greatest P", Due.with("prime 9973;").count(0), 9973);
        b.same("P at first", new HeckeSeries().count(0), 1009);
        b.same("most lets", Due.with(SIX_LETS).count(1), 6);
        b.same("no lets", new HeckeSeries().count(1), 0);
        b.same("most bytes", withBytes(600).count(2), 600);
        b.same("no bytes", new HeckeSeries().count(2), 0);
        HeckeSeries x = new HeckeSeries();
        b.same("no images", x.count(3), 0);
        x.image(1, false);
        b.same("one of them", x.count(3), 1);
        x.image(1, false);
        b.same("laid again", x.count(3), 1);
        x.image(0, false);
        b.same("both", x.count(3), 2);
        x.image(0, true);
        b.same("held still when all is as in it", x.count(3), 2);
    }

    private static void otherCounts() {
        b.sentence("promise 4", "NONE for another what.");
        for (int what : new int[] {-1, -2, 4, 5, LEAST, MOST}) {
            b.leavesAll("count " + what, Rich.Sort.RICH, x -> x.count(what), -1);
        }
    }

    private static void lets() {
        b.sentence("promise 5", "Of a let, what 0: WEIGHT, 1: LONG, 2: 1 if a CUSP (COEFFICIENT 0 is 0), else 0;");
        HeckeSeries x = Due.with(SIX_LETS);
        int[][] want = {{0, 1, 1}, {0, 1, 0}, {4, 1, 0}, {4, 1, 1}, {12, 2, 1}, {60, 6, 0}};
        for (int let = 0; let < 6; let++) {
            for (int what = 0; what < 3; what++) {
                b.same("let " + let + ", " + what, x.let(let, what), want[let][what]);
            }
        }
        b.same("101 times four, by 101", Due.with("prime 101;let a be 101*four;").let(0, 2), 1);
        b.same("102 times four, by 101", Due.with("prime 101;let a be 102*four;").let(0, 2), 0);
        for (int weight = 4; weight <= 60; weight += 2) {
            HeckeSeries y = Due.with("let a be " + product(weight) + ";");
            b.same("weight " + weight, y.let(0, 0), weight);
            b.same("LONG of " + weight, y.let(0, 1), weight / 12 + (weight % 12 == 2 ? 0 : 1));
            b.same("no cusp", y.let(0, 2), 0);
        }
    }

    private static String product(int weight) {
        return weight % 4 == 0 ? "four^" + weight / 4 : "six*four^" + (weight - 6) / 4;
    }

    private static void otherLets() {
        b.sentence("promise 5", "NONE: others, none such.");
        for (int let : new int[] {-1, -2, 6, 7, LEAST, MOST}) {
            for (int what = -1; what <= 3; what++) {
                int asked = what;
                b.leavesAll("let " + let, Rich.Sort.RICH, x -> x.let(let, asked), -1);
            }
        }
        for (int what : new int[] {-1, -2, 3, 4, LEAST, MOST}) {
            b.leavesAll("what " + what, Rich.Sort.RICH, x -> x.let(0, what), -1);
            b.leavesAll("what " + what, Rich.Sort.RICH, x -> x.let(5, what), -1);
        }
        HeckeSeries x = Due.with("let a be 1;let b be 2;");
        b.same("the last", x.let(1, 0), 0);
        b.same("one behind it", x.let(2, 0), -1);
        b.same("of none", new HeckeSeries().let(0, 0), -1);
    }

    private static void lastCall() {
        b.sentence("the document", "An object is used for at most 512 calls after it has been made;");
        HeckeSeries x = new HeckeSeries();
        for (int call = 1; call <= 510; call += 3) {
            b.same("call " + call, x.feed(BLANKS, BLANKS, BLANKS, BLANKS, BLANKS), 20);
            b.same("call " + (call + 1), x.image(call % 2, false), true);
            b.same("call " + (call + 2), x.book(20), 0);
        }
        b.same("call 511", x.trace(12, 2), -24);
        b.same("call 512", x.trace(12, 3), 252);
    }
}
