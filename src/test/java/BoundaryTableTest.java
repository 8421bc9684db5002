/** The boundary cases of promises 21 to 24: tables, polynomials, roots, own forms. */
public final class BoundaryTableTest {
    private static final int LEAST = Boundary.LEAST;
    private static final int MOST = Boundary.MOST;
    private static final int[] NO_WEIGHTS = {LEAST, -12, -2, -1, 1, 3, 11, 13, 23, 25, 59, 61, 62, 72, MOST};
    private static final int[] NO_HECKE = {LEAST, -1, 0, 31, 32, MOST};
    private static final int[] NO_REGISTERS = {LEAST, -2, -1, 4, 5, MOST};
    private static final int[] WITHOUT_CUSPS = {0, 2, 4, 6, 8, 10, 14};

    private static final Boundary b = new Boundary();

    public static void main(String[] args) {
        tableBounds();
        tableOfOne();
        otherTables();
        polynomialBounds();
        polynomialOfNoCusps();
        otherPolynomials();
        rootsFrom0();
        rootsToPLess1();
        rootsOnceAndInOrder();
        howManyRoots();
        otherRoots();
        ownForms();
        ownIsACusp();
        ownOfADoubleRoot();
        ownWhereEquationsChangePlaces();
        notJustOne();
        otherOwn();
        b.end();
    }

    private static void tableBounds() {
        b.sentence("promise 21", "Row i, column j (1 to LONG less 1) of TABLE (weight 0 to 60, even, n 1 to 30); NONE: others.");
        HeckeSeries x = Due.with("prime 9973;");
        int[][] last = {{5972, 6805, 1184, 778, 6928}, {7651, 1678, 8456, 6724, 8904}, {9971, 250, 4991, 5426, 1122},
            {9099, 824, 8924, 9717, 9835}, {931, 1609, 4117, 3374, 1086}};
        for (int i = 1; i <= 5; i++) {
            for (int j = 1; j <= 5; j++) {
                b.same("60, 30 at " + i + ", " + j, x.table(60, 30, i, j), last[i - 1][j - 1]);
            }
        }
        HeckeSeries y = new HeckeSeries();
        b.same("the least weight with cusps", y.table(12, 2, 1, 1), 985);
        b.same("its last n", y.table(12, 30, 1, 1), 728);
        HeckeSeries z = Due.with("prime 101;");
        int[][] of50 = {{0, 40, 59}, {1, 96, 84}, {0, 5, 91}};
        for (int i = 1; i <= 3; i++) {
            for (int j = 1; j <= 3; j++) {
                b.same("50, 2 at " + i + ", " + j, z.table(50, 2, i, j), of50[i - 1][j - 1]);
            }
        }
    }

    private static void tableOfOne() {
        b.sentence("promise 21", "of TABLE (weight 0 to 60, even, n 1 to 30); NONE: others.");
        for (int weight = 0; weight <= 60; weight += 2) {
            HeckeSeries x = new HeckeSeries();
            int size = x.makes(weight, true);
            for (int i = 0; i <= size + 1; i++) {
                for (int j = 0; j <= size + 1; j++) {
                    boolean such = i >= 1 && j >= 1 && i <= size && j <= size;
                    b.same(weight + ", 1 at " + i + ", " + j, x.table(weight, 1, i, j), such ? (i == j ? 1 : 0) : -1);
                }
            }
        }
    }

    private static void otherTables() {
        b.sentence("promise 21", "of TABLE (weight 0 to 60, even, n 1 to 30); NONE: others.");
        for (int weight : NO_WEIGHTS) {
            b.leavesAll("table of " + weight, Rich.Sort.RICH, x -> x.table(weight, 2, 1, 1), -1);
        }
        for (int n : NO_HECKE) {
            b.leavesAll("table of n " + n, Rich.Sort.RICH, x -> x.table(60, n, 1, 1), -1);
        }
        for (int at : new int[] {LEAST, -1, 0, 6, 7, MOST}) {
            b.leavesAll("row " + at, Rich.Sort.RICH, x -> x.table(60, 2, at, 1), -1);
            b.leavesAll("column " + at, Rich.Sort.RICH, x -> x.table(60, 2, 1, at), -1);
        }
        for (int weight : WITHOUT_CUSPS) {
            b.leavesAll("without cusps " + weight, Rich.Sort.RICH, x -> x.table(weight, 2, 1, 1), -1);
            b.leavesAll("without cusps " + weight, Rich.Sort.RICH, x -> x.table(weight, 2, 0, 0), -1);
        }
    }

    private static void polynomialBounds() {
        b.sentence("promise 22", "What stands ahead of x to the i (0 to LONG less 1) in POLYNOMIAL (likewise); NONE: others.");
        HeckeSeries x = Due.with("prime 9973;");
        int[] last = {4367, 26, 2441, 6813, 6475, 1};
        for (int i = -1; i <= 6; i++) {
            b.same("60, 30 at " + i, x.polynomial(60, 30, i), i < 0 || i > 5 ? -1 : last[i]);
        }
        HeckeSeries y = Due.with("prime 101;");
        int[] ofOne = {100, 5, 91, 10, 96, 1};
        for (int i = -1; i <= 6; i++) {
            b.same("60, 1 at " + i, y.polynomial(60, 1, i), i < 0 || i > 5 ? -1 : ofOne[i]);
        }
        HeckeSeries z = new HeckeSeries();
        b.same("12, 2 at 0", z.polynomial(12, 2, 0), 24);
        b.same("12, 2 at 1", z.polynomial(12, 2, 1), 1);
        b.same("12, 2 at 2", z.polynomial(12, 2, 2), -1);
        for (int weight = 0; weight <= 60; weight += 2) {
            int size = z.makes(weight, true);
            b.same("the last of " + weight, z.polynomial(weight, 30, size), 1);
            b.same("one behind it", z.polynomial(weight, 30, size + 1), -1);
        }
    }

    private static void polynomialOfNoCusps() {
        b.sentence("promise 22", "(LONG 0: 1 for i 0.)");
        for (int weight : WITHOUT_CUSPS) {
            for (int n : new int[] {1, 30}) {
                HeckeSeries x = new HeckeSeries();
                b.same(weight + " at 0", x.polynomial(weight, n, 0), 1);
                b.same(weight + " at 1", x.polynomial(weight, n, 1), -1);
                b.same(weight + " at -1", x.polynomial(weight, n, -1), -1);
            }
            for (int n : NO_HECKE) {
                b.same(weight + ", n " + n, new HeckeSeries().polynomial(weight, n, 0), -1);
            }
        }
    }

    private static void otherPolynomials() {
        b.sentence("promise 22", "in POLYNOMIAL (likewise); NONE: others.");
        for (int weight : NO_WEIGHTS) {
            b.leavesAll("polynomial of " + weight, Rich.Sort.RICH, x -> x.polynomial(weight, 2, 0), -1);
        }
        for (int n : NO_HECKE) {
            b.leavesAll("polynomial of n " + n, Rich.Sort.RICH, x -> x.polynomial(60, n, 0), -1);
        }
        for (int i : new int[] {LEAST, -2, -1, 6, 7, MOST}) {
            b.leavesAll("at " + i, Rich.Sort.RICH, x -> x.polynomial(60, 2, i), -1);
        }
    }

    private static void rootsAre(int prime, int weight, int... roots) {
        HeckeSeries x = Due.with("prime " + prime + ";");
        b.same("how many of " + weight + " by " + prime, x.root(weight, -1), roots.length);
        for (int i = 0; i < roots.length; i++) {
            b.same("root " + i + " of " + weight + " by " + prime, x.root(weight, i), roots[i]);
        }
        for (int i : new int[] {roots.length, roots.length + 1, 5, 6, -2, LEAST, MOST}) {
            if (i < 0 || i >= roots.length) {
                b.same("root " + i + " of " + weight + " by " + prime, x.root(weight, i), -1);
            }
        }
    }

    private static void rootsFrom0() {
        b.sentence("terms", "ROOTS of k: all x of 0 to P - 1 at which POLYNOMIAL of k, 2 is 0, each once, the least first.");
        rootsAre(107, 28, 0, 66);
        rootsAre(139, 36, 0);
    }

    private static void rootsToPLess1() {
        b.sentence("terms", "ROOTS of k: all x of 0 to P - 1 at which");
        rootsAre(103, 38, 65, 102);
        rootsAre(149, 36, 58, 135, 148);
        rootsAre(107, 58, 106);
    }

    private static void rootsOnceAndInOrder() {
        b.sentence("terms", "each once, the least first.");
        rootsAre(107, 60, 22, 41, 94, 96, 100);
        rootsAre(131, 28, 52);
        rootsAre(227, 46, 5, 208);
        rootsAre(383, 48, 243);
        rootsAre(677, 52, 458, 543, 644);
        rootsAre(9973, 60);
        rootsAre(9973, 24, 4009, 7044);
    }

    private static void howManyRoots() {
        b.sentence("promise 23", "The i-th ROOT; how many there are (i NONE); NONE: others, none such.");
        rootsAre(1009, 12, 985);
        rootsAre(101, 24);
        for (int weight : WITHOUT_CUSPS) {
            rootsAre(101, weight);
        }
        HeckeSeries x = new HeckeSeries();
        for (int weight = 0; weight <= 60; weight += 2) {
            int many = x.root(weight, HeckeSeries.NONE);
            b.same("no more than cusps, " + weight, many >= 0 && many <= x.makes(weight, true), true);
            b.same("one behind the last", x.root(weight, many), -1);
            b.same("the last", many == 0 || x.root(weight, many - 1) >= 0, true);
        }
    }

    private static void otherRoots() {
        b.sentence("promise 23", "how many there are (i NONE); NONE: others, none such.");
        for (int weight : NO_WEIGHTS) {
            b.leavesAll("how many of " + weight, Rich.Sort.RICH, x -> x.root(weight, -1), -1);
            b.leavesAll("root of " + weight, Rich.Sort.RICH, x -> x.root(weight, 0), -1);
        }
        for (int i : new int[] {LEAST, -3, -2, 5, 6, MOST}) {
            b.leavesAll("root " + i, Rich.Sort.RICH, x -> x.root(60, i), -1);
        }
        b.leavesAll("root 0 of 12", Rich.Sort.RICH, x -> x.root(12, 0), 187);
        b.leavesAll("root 1 of 12", Rich.Sort.RICH, x -> x.root(12, 1), -1);
    }

    private static void ownIs(int prime, int weight, int i, int... begins) {
        for (int r = 0; r < 4; r++) {
            HeckeSeries x = Due.with("prime " + prime + ";");
            b.same("own of root " + i, x.own(r, weight, i), begins[2]);
            b.same("weight", x.weight(r), weight);
            for (int n = 0; n < begins.length; n++) {
                b.same("coefficient " + n, x.coefficient(r, n), begins[n]);
            }
            b.same("is multiplied by the root", x.multiplies(r, 2), begins[2]);
            b.same("is multiplied by others, too", x.multiplies(r, 30), x.coefficient(r, 30));
            b.same("other registers stay", x.weight((r + 1) % 4) + x.coefficient((r + 3) % 4, 0), 1);
        }
    }

    private static void ownForms() {
        b.sentence("promise 24", "REGISTER r is OWN of the i-th ROOT: the ROOT;");
        ownIs(107, 28, 0, 0, 1, 0, 14, 76, 54, 0);
        ownIs(107, 28, 1, 0, 1, 66, 60, 45, 82, 1);
        ownIs(103, 38, 1, 0, 1, 102, 50, 45, 26, 53);
        ownIs(107, 60, 0, 0, 1, 22, 21, 13, 16, 34);
        ownIs(107, 60, 4, 0, 1, 100, 65, 6, 38, 80);
        ownIs(1009, 12, 0, 0, 1, 985, 252, 546, 794, 6, 409);
    }

    /** Whatever was asked ahead of it, of other weights and of forms that are no cusps. */
    private static void ownIsACusp() {
        b.sentence("terms", "OWN of a ROOT: the FORM, a CUSP with COEFFICIENT 1 being 1");
        HeckeSeries x = Due.with("prime 107;let a be four^15;let b be four^7;");
        for (int i = 0; i < 5; i++) {
            int root = x.root(60, i);
            x.take(0, 0);
            x.hecke(0, 30);
            x.polynomial(48, 3, 0);
            b.same("own", x.own(0, 60, i), root);
            b.same("a cusp", x.coefficient(0, 0), 0);
            b.same("1", x.coefficient(0, 1), 1);
            b.same("multiplied by", x.multiplies(0, 2), root);
            x.take(1, 1);
            x.hecke(1, 2);
            b.same("own of weight 28", x.own(1, 28, i % 2), i % 2 * 66);
            b.same("a cusp", x.coefficient(1, 0), 0);
        }
    }

    private static void ownOfADoubleRoot() {
        b.sentence("terms", "HECKE 2 of which is that ROOT times it, if there is just one.");
        ownIs(131, 28, 0, 0, 1, 52, 70, 109, 7, 103);
        ownIs(227, 46, 0, 0, 1, 5, 157, 137, 108, 104);
        ownIs(677, 52, 1, 0, 1, 543, 347, 173, 167, 215);
    }

    /** Roots at which an equation must change places with another, or it would be lost. */
    private static void ownWhereEquationsChangePlaces() {
        b.sentence("terms", "HECKE 2 of which is that ROOT times it, if there is just one.");
        ownIs(271, 52, 0, 0, 1, 110, 174, 10, 245, 170);
        ownIs(467, 48, 1, 0, 1, 371, 323, 23, 453, 281);
        ownIs(2551, 52, 1, 0, 1, 2183, 1736, 1939, 1679, 1453);
        ownIs(2857, 60, 1, 0, 1, 420, 2540, 2379, 2370, 1139);
        ownIs(3877, 56, 1, 0, 1, 3841, 2855, 3616, 3639, 1899);
    }

    private static void notJustOne() {
        b.sentence("promise 24", "-2, and nothing happens: there is not just one;");
        for (int r = 0; r < 4; r++) {
            HeckeSeries x = Due.with("prime 383;let a be six;let b be delta^5;let c be four^3;let d be 0*four;");
            for (int let = 0; let < 4; let++) {
                x.take(let, let);
            }
            b.same("own", x.own(r, 48, 0), -2);
            for (int let = 0; let < 4; let++) {
                b.same("weight stays", x.weight(let), new int[] {6, 60, 12, 4}[let]);
                b.same("first stays", x.coefficient(let, 0), new int[] {1, 0, 1, 0}[let]);
            }
        }
        HeckeSeries y = Due.with("prime 677;");
        b.same("one of three", y.own(3, 52, 0), -2);
        b.same("stays ONE", y.weight(3) + y.coefficient(3, 0), 1);
        b.same("another of three", y.own(3, 52, 2), 644);
        b.same("again", y.own(3, 52, 0), -2);
        b.same("stays", y.coefficient(3, 2), 644);
    }

    private static void otherOwn() {
        b.sentence("promise 24", "NONE likewise: others, none such.");
        for (int r : NO_REGISTERS) {
            b.leavesAll("register " + r, Rich.Sort.RICH, x -> x.own(r, 12, 0), -1);
        }
        for (int weight : NO_WEIGHTS) {
            b.leavesAll("weight " + weight, Rich.Sort.RICH, x -> x.own(0, weight, 0), -1);
        }
        for (int weight : WITHOUT_CUSPS) {
            b.leavesAll("without cusps " + weight, Rich.Sort.RICH, x -> x.own(0, weight, 0), -1);
            b.leavesAll("how many is no root", Rich.Sort.RICH, x -> x.own(0, weight, -1), -1);
        }
        for (int i : new int[] {LEAST, -2, -1, 1, 2, MOST}) {
            b.leavesAll("root " + i, Rich.Sort.RICH, x -> x.own(3, 12, i), -1);
        }
        HeckeSeries x = Due.with("prime 383;");
        b.same("none such ahead of not just one", x.own(4, 48, 0), -1);
        b.same("none such behind it", x.own(0, 48, 1), -1);
        b.same("the last root", x.own(0, 46, 2), 301);
        b.same("one behind it", x.own(0, 46, 3), -1);
        b.same("stays", x.coefficient(0, 2), 301);
    }
}
