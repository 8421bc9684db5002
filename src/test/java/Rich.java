import java.util.Arrays;

/** Objects with something in every part, and a reading of all that an object's calls can tell. */
final class Rich {
    /** The weights of its lets. */
    static final int[] WEIGHTS = {4, 6, 12, 60, 6, 50};

    private static final String BOOK = "prime 211;let a be four;let bb be 7*six;let ccc be delta+four^3;"
            + "let dddd be delta^5;let eeeee be 0*six;let ffffff be four^2*six*delta^3;";
    private static final String NEXT_BOOK = "let z be delta^2*2;\n";
    private static final String LAST_LET = "let y be z*six*four;";

    enum Sort {
        /** Just made. */
        NEW,
        /** Registers: 6 four, delta^5, 0 of weight 6, 7 six; rows in both shelves; image 0; 20 bytes. */
        RICH,
        /** As RICH, with nothing on the tape. */
        RICH_WITHOUT_TAPE,
        /** As RICH, with all 600 bytes. */
        RICH_WITH_FULL_TAPE,
        /** As RICH with its shelves swapped and filled anew; image 0 has the former sorts, image 1 these. */
        SWAPPED;

        HeckeSeries made() {
            switch (this) {
                case NEW:
                    return new HeckeSeries();
                case RICH:
                    return withTape(rich(), NEXT_BOOK);
                case RICH_WITHOUT_TAPE:
                    return rich();
                case RICH_WITH_FULL_TAPE:
                    return withTape(rich(), NEXT_BOOK + " ".repeat(560) + LAST_LET);
                default:
                    return swapped();
            }
        }
    }

    private Rich() {
    }

    private static HeckeSeries rich() {
        HeckeSeries x = Due.with(BOOK);
        for (int r = 0; r < 4; r++) {
            x.take(r, r + 2);
        }
        x.put(0, 0, false, 0);
        x.put(0, 3, false, 0);
        x.put(1, 1, true, 12);
        x.put(1, 2, true, 32);
        x.image(0, false);
        x.take(0, 0);
        x.plus(0, 0, 5);
        x.take(3, 1);
        x.put(0, 1, false, 0);
        x.put(1, 1, true, 16);
        return x;
    }

    private static HeckeSeries withTape(HeckeSeries x, String text) {
        Due.feed(x, text.getBytes());
        return x;
    }

    private static HeckeSeries swapped() {
        HeckeSeries x = withTape(rich(), NEXT_BOOK);
        x.swap();
        x.put(0, 2, true, 24);
        x.put(1, 2, false, 0);
        x.image(1, false);
        x.put(0, 3, true, 26);
        x.times(0, 0);
        return x;
    }

    /** Uses the object up: some 300 calls, the last of which are a book of what is on its tape. */
    static String reading(HeckeSeries x) {
        StringBuilder text = new StringBuilder();
        for (int what = 0; what < 4; what++) {
            text.append(x.count(what)).append(' ');
        }
        for (int let = 0; let < 7; let++) {
            text.append("let ").append(x.let(let, 0)).append(' ').append(x.let(let, 1)).append(' ')
                    .append(x.let(let, 2)).append(' ');
        }
        registersAndRows(x, text);
        for (int let = 0; let < x.count(1); let++) {
            x.take(0, let);
            register(x, 0, text);
        }
        for (int k = 0; k < 2; k++) {
            text.append("image ").append(x.image(k, true)).append(' ');
            registersAndRows(x, text);
        }
        text.append("sorts ").append(x.put(0, 0, false, 0)).append(x.put(0, 0, true, 12))
                .append(x.put(1, 0, false, 0)).append(x.put(1, 0, true, 12)).append(x.swap());
        text.append(" book ").append(x.book(x.count(2))).append(' ').append(x.let(0, 0)).append(' ')
                .append(x.let(1, 0)).append(' ').append(x.count(0));
        return text.toString();
    }

    private static void registersAndRows(HeckeSeries x, StringBuilder text) {
        for (int r = 0; r < 4; r++) {
            register(x, r, text);
        }
        for (int place = 0; place < 8; place++) {
            text.append("row ");
            for (int i : Arrays.asList(0, 1, 2, 11, 12)) {
                int shelf = place / 4;
                int row = place % 4;
                text.append(Due.answerOf(() -> x.row(shelf, row, i))).append(' ');
            }
        }
    }

    /** Six coefficients tell a form of any weight. */
    private static void register(HeckeSeries x, int r, StringBuilder text) {
        text.append("form ").append(x.weight(r)).append(' ');
        for (int n = 0; n < 6; n++) {
            text.append(x.coefficient(r, n)).append(' ');
        }
    }
}
