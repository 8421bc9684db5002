/** The boundary cases of promises 6, 7 and 14 to 20: coefficients, weights, and what registers do. */
public final class BoundaryRegisterTest {
    private static final int LEAST = Boundary.LEAST;
    private static final int MOST = Boundary.MOST;
    private static final int[] NO_REGISTERS = {LEAST, -4, -2, -1, 4, 5, 8, MOST};
    private static final int[] NO_COEFFICIENTS = {LEAST, -180, -2, -1, 181, 182, 360, MOST};
    private static final int[] NO_HECKE = {LEAST, -30, -2, -1, 0, 31, 32, 60, MOST};

    private static final Boundary b = new Boundary();

    public static void main(String[] args) {
        registersAtFirst();
        weightsOfSeries();
        coefficientBounds();
        coefficientsOfProducts();
        otherCoefficients();
        weights();
        takenLets();
        noSuchLet();
        plusByAnyNumber();
        plusByItself();
        noPlus();
        timesTo60();
        timesAbove60();
        heckeBounds();
        heckeAtCoefficient0();
        heckeOfWeight0();
        otherHecke();
        multipliesBounds();
        multipliesByNone();
        otherMultiplies();
        noHecke31();
        alikeUpTo();
        alikeOfUnlikeWeights();
        otherAlike();
        partsAtTheBound();
        alikeToTheBound();
        partsOfAlikeOnes();
        noParts();
        b.end();
    }

    /** Register r is let r, as far as there are lets. */
    private static HeckeSeries taken(String text) {
        HeckeSeries x = Due.with(text);
        for (int r = 0; r < 4; r++) {
            x.take(r, r);
        }
        return x;
    }

    private static long sigma(int power, int n) {
        long sum = 0;
        for (int d = 1; d <= n; d++) {
            if (n % d == 0) {
                long part = 1;
                for (int i = 0; i < power; i++) {
                    part *= d;
                }
                sum += part;
            }
        }
        return sum;
    }

    private static void registersAtFirst() {
        b.sentence("terms", "REGISTERS 0 to 3: FORMS, ONE at first and with a new BOOK.");
        HeckeSeries x = new HeckeSeries();
        HeckeSeries y = Rich.Sort.RICH.made();
        b.same("a new book", y.book(20), 1);
        for (int r = -1; r <= 4; r++) {
            boolean such = r >= 0 && r < 4;
            b.same("weight of " + r, x.weight(r), such ? 0 : -1);
            b.same("weight of " + r + ", new book", y.weight(r), such ? 0 : -1);
            for (int n = 0; n <= 8; n++) {
                int want = such ? (n == 0 ? 1 : 0) : -1;
                b.same("coefficient of " + r, x.coefficient(r, n), want);
                b.same("coefficient of " + r + ", new book", y.coefficient(r, n), want);
            }
        }
    }

    private static void weightsOfSeries() {
        b.sentence("terms", "A SERIES has a WEIGHT, 0 or even, to 60");
        HeckeSeries x = taken("let a be four;let b be 1;");
        for (int weight = 4; weight <= 60; weight += 4) {
            b.same("times four", x.times(1, 0), weight);
        }
        b.same("once more", x.times(1, 0), -1);
        b.same("stays", x.weight(1), 60);
        HeckeSeries y = taken("let a be six;let b be four;");
        for (int weight = 10; weight <= 58; weight += 6) {
            b.same("times six", y.times(1, 0), weight);
        }
        b.same("58 and 6", y.times(1, 0), -1);
        b.same("stays", y.weight(1), 58);
        b.same("58 and 0", y.times(1, 2), 58);
    }

    private static void coefficientBounds() {
        b.sentence("promise 6", "COEFFICIENT n (0 to 180) of a REGISTER; NONE: others.");
        HeckeSeries x = taken("prime 9973;let a be four;let b be six;let c be delta;let d be 3;");
        for (int n : new int[] {1, 2, 5, 6, 7, 35, 36, 37, 60, 179, 180}) {
            b.same("four at " + n, x.coefficient(0, n), Math.floorMod(240 * sigma(3, n), 9973L));
            b.same("six at " + n, x.coefficient(1, n), Math.floorMod(-504 * sigma(5, n), 9973L));
            b.same("3 at " + n, x.coefficient(3, n), 0);
        }
        b.same("four at 0", x.coefficient(0, 0), 1);
        b.same("six at 0", x.coefficient(1, 0), 1);
        b.same("delta at 0", x.coefficient(2, 0), 0);
        b.same("delta at 180", x.coefficient(2, 180), Math.floorMod(-1472L * -113643 * 4830, 9973L));
        b.same("3 at 0", x.coefficient(3, 0), 3);
    }

    /** The product of two: all of i of the one times n - i of the other, for forms that are no cusps. */
    private static void coefficientsOfProducts() {
        b.sentence("terms", "COEFFICIENT n: all of i of the one times n - i of the other, together; its WEIGHT is that of both together.");
        for (int prime : new int[] {101, 9973}) {
            long[] series = new long[181];
            series[0] = 1;
            for (int a = 1; a <= 15; a++) {
                series = timesFour(series, prime);
                HeckeSeries x = taken("prime " + prime + ";let a be four^" + a + ";");
                b.same("weight", x.weight(0), 4 * a);
                for (int n = 0; n <= 180; n++) {
                    b.same("four^" + a + " at " + n, x.coefficient(0, n), series[n]);
                }
            }
        }
    }

    private static long[] timesFour(long[] series, int prime) {
        long[] product = series.clone();
        for (int i = 1; i <= 180; i++) {
            long part = 240 * sigma(3, i) % prime;
            for (int n = i; n <= 180; n++) {
                product[n] = (product[n] + part * series[n - i]) % prime;
            }
        }
        return product;
    }

    private static void otherCoefficients() {
        b.sentence("promise 6", "COEFFICIENT n (0 to 180) of a REGISTER; NONE: others.");
        for (int n : NO_COEFFICIENTS) {
            for (int r = 0; r < 4; r++) {
                int register = r;
                b.leavesAll("coefficient " + n, Rich.Sort.RICH, x -> x.coefficient(register, n), -1);
            }
        }
        for (int r : NO_REGISTERS) {
            b.leavesAll("of register " + r, Rich.Sort.RICH, x -> x.coefficient(r, 0), -1);
            b.leavesAll("of register " + r, Rich.Sort.RICH, x -> x.coefficient(r, 180), -1);
        }
    }

    private static void weights() {
        b.sentence("promise 7", "WEIGHT of a REGISTER; NONE: none such.");
        int[] want = {4, 60, 6, 6};
        for (int r = 0; r < 4; r++) {
            int register = r;
            b.leavesAll("weight of " + r, Rich.Sort.RICH, x -> x.weight(register), want[r]);
            b.leavesAll("of ONE", Rich.Sort.NEW, x -> x.weight(register), 0);
        }
        for (int r : NO_REGISTERS) {
            b.leavesAll("weight of " + r, Rich.Sort.RICH, x -> x.weight(r), -1);
        }
    }

    private static void takenLets() {
        b.sentence("promise 14", "A REGISTER is a let: its WEIGHT; NONE: none such.");
        for (int r = 0; r < 4; r++) {
            for (int let = 0; let < 6; let++) {
                HeckeSeries x = Rich.Sort.RICH.made();
                b.same("take " + r + ", " + let, x.take(r, let), Rich.WEIGHTS[let]);
                b.same("weight", x.weight(r), Rich.WEIGHTS[let]);
                for (int other = 0; other < 4; other++) {
                    int want = other == r ? Rich.WEIGHTS[let] : new int[] {4, 60, 6, 6}[other];
                    b.same("weight of " + other, x.weight(other), want);
                }
            }
        }
    }

    private static void noSuchLet() {
        b.sentence("promise 14", "A REGISTER is a let: its WEIGHT; NONE: none such.");
        for (int r : NO_REGISTERS) {
            b.leavesAll("take " + r + ", 0", Rich.Sort.RICH, x -> x.take(r, 0), -1);
            b.leavesAll("take " + r + ", 5", Rich.Sort.RICH, x -> x.take(r, 5), -1);
        }
        for (int let : new int[] {LEAST, -2, -1, 6, 7, MOST}) {
            b.leavesAll("take 0, " + let, Rich.Sort.RICH, x -> x.take(0, let), -1);
            b.leavesAll("take 3, " + let, Rich.Sort.RICH, x -> x.take(3, let), -1);
        }
        b.leavesAll("of no lets", Rich.Sort.NEW, x -> x.take(0, 0), -1);
        HeckeSeries x = Due.with("let a be four;let b be six;");
        b.same("the last", x.take(0, 1), 6);
        b.same("one behind it", x.take(0, 2), -1);
        b.same("stays", x.weight(0), 6);
    }

    private static void plusByAnyNumber() {
        b.sentence("promise 15", "REGISTER r is r and f (LEFT of it) times s: true;");
        for (int f : new int[] {0, 1, 100, 101, 102, -1, -100, -101, -102, LEAST, LEAST + 1, MOST - 1, MOST}) {
            HeckeSeries x = taken("prime 101;let a be 3*four;let b be 100*four;");
            b.same("plus " + f, x.plus(0, 1, f), true);
            b.same("is 3 less f", x.coefficient(0, 0), Math.floorMod(3L - f, 101L));
            b.same("at 1", x.coefficient(0, 1), Math.floorMod((3L - f) * 240, 101L));
            b.same("the other stays", x.coefficient(1, 0), 100);
            b.same("weight", x.weight(0), 4);
        }
    }

    private static void plusByItself() {
        b.sentence("promise 15", "REGISTER r is r and f (LEFT of it) times s: true;");
        for (int r = 0; r < 4; r++) {
            HeckeSeries x = taken("let a be delta^5;let b be delta^5;let c be delta^5;let d be delta^5;");
            b.same("by itself", x.plus(r, r, 2), true);
            b.same("thrice", x.coefficient(r, 5), 3);
            b.same("less itself", x.plus(r, r, 1008), true);
            b.same("0", x.coefficient(r, 5), 0);
            b.same("0 has its weight", x.weight(r), 60);
            b.same("0 and another", x.plus(r, (r + 1) % 4, -1), true);
            b.same("less one", x.coefficient(r, 5), 1008);
        }
        HeckeSeries one = new HeckeSeries();
        b.same("ONE and ONE", one.plus(3, 0, 1008), true);
        b.same("0", one.coefficient(3, 0), 0);
    }

    private static void noPlus() {
        b.sentence("promise 15", "false, and nothing happens: none such, they are of unlike WEIGHTS.");
        for (int r : NO_REGISTERS) {
            b.leavesAll("plus " + r + ", 0", Rich.Sort.RICH, x -> x.plus(r, 0, 1), false);
            b.leavesAll("plus 0, " + r, Rich.Sort.RICH, x -> x.plus(0, r, 1), false);
            b.leavesAll("plus " + r + ", " + r, Rich.Sort.RICH, x -> x.plus(r, r, 1), false);
        }
        int[][] unlike = {{0, 1}, {1, 0}, {0, 2}, {2, 0}, {1, 2}, {1, 3}, {3, 0}};
        for (int[] pair : unlike) {
            for (int f : new int[] {0, 1, 211, MOST}) {
                b.leavesAll("plus of unlike ones", Rich.Sort.RICH, x -> x.plus(pair[0], pair[1], f), false);
            }
        }
        b.same("alike ones", Rich.Sort.RICH.made().plus(2, 3, 1), true);
    }

    private static void timesTo60() {
        b.sentence("promise 16", "REGISTER r is r times s: its WEIGHT;");
        HeckeSeries x = taken("let a be delta^4*four^2;let b be four;let c be six*delta^2;let d be six*four*delta^4;");
        b.same("0 and 0", new HeckeSeries().times(0, 1), 0);
        b.same("56 and 4", x.times(0, 1), 60);
        b.same("weight", x.weight(0), 60);
        b.same("its first number", x.coefficient(0, 4), 1);
        b.same("the other stays", x.weight(1), 4);
        b.same("30 by itself", x.times(2, 2), 60);
        b.same("its first number", x.coefficient(2, 4), 1);
        b.same("its next", x.coefficient(2, 5), Math.floorMod(2L * -504 - 96, 1009));
        HeckeSeries y = taken("let a be delta^5;");
        b.same("60 and 0", y.times(0, 1), 60);
        b.same("0 and 60", y.times(1, 0), 60);
        b.same("0 of 60", y.plus(0, 0, -1), true);
        b.same("0 times ONE", y.times(0, 2), 60);
    }

    private static void timesAbove60() {
        b.sentence("promise 16", "NONE, and nothing happens: none such, it would be above 60.");
        int[][] above = {{0, 1}, {1, 0}, {1, 1}, {1, 2}, {2, 1}, {3, 1}};
        for (int[] pair : above) {
            b.leavesAll("times " + pair[0] + ", " + pair[1], Rich.Sort.RICH, x -> x.times(pair[0], pair[1]), -1);
        }
        for (int r : NO_REGISTERS) {
            b.leavesAll("times " + r + ", 0", Rich.Sort.RICH, x -> x.times(r, 0), -1);
            b.leavesAll("times 0, " + r, Rich.Sort.RICH, x -> x.times(0, r), -1);
            b.leavesAll("times " + r + ", " + r, Rich.Sort.RICH, x -> x.times(r, r), -1);
        }
        HeckeSeries x = taken("let a be delta^4*four*six;let b be four;let c be delta^2*four^2;let d be 0*four;");
        b.same("58 and 4", x.times(0, 1), -1);
        b.same("4 and 58", x.times(1, 0), -1);
        b.same("32 by itself", x.times(2, 2), -1);
        b.same("58 and 0 of 4", x.times(0, 3), -1);
        b.same("weights stay", x.weight(0) + x.weight(1) + x.weight(2) + x.weight(3), 98);
    }

    private static void heckeBounds() {
        b.sentence("terms", "HECKE n (1 to 30) of a FORM of WEIGHT k:");
        long[] tau = {0, 1, -24, 252, -1472, 4830, -6048, -16744, 84480, -113643, -115920, 534612, -370944};
        for (int r = 0; r < 4; r++) {
            HeckeSeries x = Due.with("let a be delta;");
            x.take(r, 0);
            b.same("hecke 1", x.hecke(r, 1), true);
            b.same("as it was", x.coefficient(r, 2), 985);
            b.same("hecke 12", x.hecke(r, 12), true);
            b.same("times tau of 12", x.coefficient(r, 1), Math.floorMod(tau[12], 1009L));
        }
        HeckeSeries x = taken("let a be delta;let b be delta;let c be delta;let d be four^15;");
        b.same("hecke 30", x.hecke(0, 30), true);
        b.same("times tau of 30", x.coefficient(0, 1), Math.floorMod(tau[2] * tau[3] * tau[5], 1009L));
        b.same("hecke 29", x.hecke(1, 29), true);
        b.same("times tau of 29", x.coefficient(1, 1), Math.floorMod(128406630L, 1009L));
        b.same("the last weight", x.hecke(3, 30), true);
        b.same("its weight stays", x.weight(3), 60);
    }

    private static void heckeAtCoefficient0() {
        b.sentence("terms", "all d that go into m and n (of m 0: into n) together:");
        for (int n = 1; n <= 30; n++) {
            HeckeSeries x = taken("prime 9973;let a be four;let b be six;let c be 5*six;");
            b.same("hecke of four", x.hecke(0, n), true);
            b.same("at 0", x.coefficient(0, 0), Math.floorMod(sigma(3, n), 9973L));
            b.same("at 1", x.coefficient(0, 1), Math.floorMod(240 * sigma(3, n), 9973L));
            b.same("hecke of 5 six", x.hecke(2, n), true);
            b.same("at 0", x.coefficient(2, 0), Math.floorMod(5 * sigma(5, n), 9973L));
        }
    }

    private static void heckeOfWeight0() {
        b.sentence("terms", "It is a FORM of WEIGHT k. (k 0, 2: 0.)");
        for (int n : new int[] {1, 2, 29, 30}) {
            HeckeSeries x = taken("let a be 7;let b be 0;");
            b.same("hecke of 7", x.hecke(0, n), true);
            b.same("is 0", x.coefficient(0, 0), 0);
            b.same("of weight 0", x.weight(0), 0);
            b.same("hecke of 0", x.hecke(1, n), true);
            b.same("hecke of ONE", x.hecke(2, n), true);
            b.same("all alike", x.parts(0, 1) + x.parts(1, 2), -4);
        }
    }

    private static void otherHecke() {
        b.sentence("promise 17", "REGISTER r is HECKE n of it: true; false: others.");
        for (int n : NO_HECKE) {
            for (int r = 0; r < 4; r++) {
                int register = r;
                b.leavesAll("hecke " + n, Rich.Sort.RICH, x -> x.hecke(register, n), false);
            }
        }
        for (int r : NO_REGISTERS) {
            b.leavesAll("hecke of " + r, Rich.Sort.RICH, x -> x.hecke(r, 1), false);
            b.leavesAll("hecke of " + r, Rich.Sort.RICH, x -> x.hecke(r, 30), false);
        }
    }

    private static void multipliesBounds() {
        b.sentence("promise 18", "By which LEFT HECKE n multiplies a REGISTER (that is not 0);");
        HeckeSeries x = taken("prime 9973;let a be 9972*four;let b be six;let c be 2*delta;let d be four*six;");
        for (int n = 1; n <= 30; n++) {
            b.same("four by " + n, x.multiplies(0, n), Math.floorMod(sigma(3, n), 9973L));
            b.same("six by " + n, x.multiplies(1, n), Math.floorMod(sigma(5, n), 9973L));
            b.same("delta by " + n, x.multiplies(2, n), x.traceLeft(12, n));
            b.same("weight 10 by " + n, x.multiplies(3, n), Math.floorMod(sigma(9, n), 9973L));
        }
        for (int n : new int[] {1, 2, 30}) {
            b.leavesAll("of ONE by " + n, Rich.Sort.NEW, y -> y.multiplies(3, n), 0);
            b.leavesAll("of 7 six", Rich.Sort.RICH, y -> y.multiplies(3, n), (int) (sigma(5, n) % 211));
        }
        HeckeSeries by0 = Due.with("prime 107;");
        by0.own(0, 28, 0);
        b.same("by 0", by0.multiplies(0, 2), 0);
    }

    private static void multipliesByNone() {
        b.sentence("promise 18", "-2: it is 0, by none; NONE: others.");
        for (int n : new int[] {1, 2, 29, 30}) {
            b.leavesAll("it is 0", Rich.Sort.RICH, x -> x.multiplies(2, n), -2);
            b.leavesAll("delta^5", Rich.Sort.RICH, x -> x.multiplies(1, n), n == 1 ? 1 : -2);
        }
        HeckeSeries x = taken("let a be 0;let b be 1009;let c be four^3;let d be delta^5*0;");
        b.same("0 of weight 0", x.multiplies(0, 2), -2);
        b.same("1009", x.multiplies(1, 2), -2);
        b.same("four^3", x.multiplies(2, 2), -2);
        b.same("0 of weight 60", x.multiplies(3, 30), -2);
    }

    private static void otherMultiplies() {
        b.sentence("promise 18", "-2: it is 0, by none; NONE: others.");
        for (int n : NO_HECKE) {
            for (int r = 0; r < 4; r++) {
                int register = r;
                b.leavesAll("multiplies " + n, Rich.Sort.RICH, x -> x.multiplies(register, n), -1);
            }
        }
        for (int r : NO_REGISTERS) {
            b.leavesAll("multiplies of " + r, Rich.Sort.RICH, x -> x.multiplies(r, 1), -1);
        }
    }

    /** Whatever the register is: 0 of several weights, by none, by some. */
    private static void noHecke31() {
        b.sentence("part 3", "HECKE n (1 to 30) of a FORM of WEIGHT k");
        HeckeSeries x = taken("let a be 0;let b be 0*delta;let c be four^3;let d be 3;");
        int[] at30 = {-2, -2, -2, 0};
        for (int r = 0; r < 4; r++) {
            b.same("30 of " + r, x.multiplies(r, 30), at30[r]);
            b.same("31 of " + r, x.multiplies(r, 31), -1);
            b.same("0 of " + r, x.multiplies(r, 0), -1);
            b.same("hecke 31 of " + r, x.hecke(r, 31), false);
        }
    }

    private static void alikeUpTo() {
        b.sentence("promise 19", "1 if two REGISTERS are of one WEIGHT and alike in COEFFICIENTS 0 to n (0 to 180), 0;");
        String ahead = "let a be four^15;let b be four^15+";
        for (int j = 0; j <= 5; j++) {
            HeckeSeries x = taken(ahead + "delta^" + j + "*four^" + (15 - 3 * j) + ";");
            for (int n = 0; n <= 10; n++) {
                b.same("to " + n + ", unlike at " + j, x.alike(0, 1, n), n < j ? 1 : 0);
                b.same("turned round", x.alike(1, 0, n), n < j ? 1 : 0);
            }
            b.same("to 180", x.alike(0, 1, 180), 0);
            b.same("itself", x.alike(1, 1, 180), 1);
        }
        HeckeSeries y = taken("let a be four^2*six;let b be six*four*four;let c be 0*four^2*six;");
        b.same("alike to 0", y.alike(0, 1, 0), 1);
        b.same("alike to 180", y.alike(0, 1, 180), 1);
        b.same("unlike at 0", y.alike(0, 2, 0), 0);
    }

    private static void alikeOfUnlikeWeights() {
        b.sentence("promise 19", "1 if two REGISTERS are of one WEIGHT");
        HeckeSeries x = taken("let a be 0*four;let b be 0*six;let c be four;let d be six;");
        b.same("0 and 0", x.alike(0, 1, 0), 0);
        b.same("0 and 0 to 180", x.alike(0, 1, 180), 0);
        b.same("both 1 at first", x.alike(2, 3, 0), 0);
        b.same("of one weight", x.alike(0, 0, 180), 1);
    }

    private static void otherAlike() {
        b.sentence("promise 19", "and alike in COEFFICIENTS 0 to n (0 to 180), 0; NONE: others.");
        for (int n : NO_COEFFICIENTS) {
            b.leavesAll("one weight, to " + n, Rich.Sort.RICH, x -> x.alike(2, 3, n), -1);
            b.leavesAll("itself, to " + n, Rich.Sort.RICH, x -> x.alike(1, 1, n), -1);
            b.leavesAll("unlike weights, to " + n, Rich.Sort.RICH, x -> x.alike(0, 1, n), -1);
        }
        for (int r : NO_REGISTERS) {
            b.leavesAll("alike " + r + ", 0", Rich.Sort.RICH, x -> x.alike(r, 0, 0), -1);
            b.leavesAll("alike 0, " + r, Rich.Sort.RICH, x -> x.alike(0, r, 180), -1);
            b.leavesAll("alike " + r + ", " + r, Rich.Sort.RICH, x -> x.alike(r, r, 0), -1);
        }
    }

    private static void partsAtTheBound() {
        b.sentence("promise 20", "The least n with COEFFICIENTS n of two REGISTERS of one WEIGHT being unlike (at most BOUND);");
        for (int weight = 12; weight <= 60; weight += 12) {
            int bound = weight / 12;
            HeckeSeries x = taken("let a be four^" + weight / 4 + ";let b be four^" + weight / 4 + "+delta^" + bound + ";"
                    + "let c be 0*four^" + weight / 4 + ";");
            b.same("weight " + weight, x.parts(0, 1), bound);
            b.same("turned round", x.parts(1, 0), bound);
            b.same("unlike at 0", x.parts(0, 2), 0);
            b.same("alike below the bound", x.alike(0, 1, bound - 1), 1);
            b.same("not at it", x.alike(0, 1, bound), 0);
        }
        HeckeSeries last = taken("let a be six^10;let b be six^10-1008*delta^5;let c be 0*delta^5;let d be delta^5;");
        b.same("5 of weight 60", last.parts(0, 1), 5);
        b.same("5 of weight 60", last.parts(2, 3), 5);
        HeckeSeries of14 = taken("let a be four^2*six;let b be 2*four^2*six;");
        b.same("weight 14", of14.parts(0, 1), 0);
        HeckeSeries of26 = taken("let a be four^5*six;let b be four^5*six+delta*four^2*six;");
        b.same("weight 26", of26.parts(0, 1), 1);
        b.same("ONE and ONE", new HeckeSeries().parts(0, 3), -2);
    }

    /** Each form of a weight less a form that is alike at 0 to LONG less 1 is 0 up to 180. */
    private static void alikeToTheBound() {
        b.sentence("terms", "BOUND of k: k by 12, downwards: two FORMS of WEIGHT k that are alike in COEFFICIENTS 0 to BOUND are alike.");
        for (int weight = 4; weight <= 60; weight += 2) {
            String head = weight % 4 == 0 ? "" : "six*";
            int fours = (weight - (weight % 4 == 0 ? 0 : 6)) / 4;
            String one = head + "four^" + fours;
            String other = fours < 3 ? one : head + "four^" + (fours - 3) + "*(six^2+1728*delta)";
            HeckeSeries x = taken("let a be " + one + ";let b be " + other + ";");
            b.same("alike to the bound", x.alike(0, 1, weight / 12), 1);
            b.same("alike to 180", x.alike(0, 1, 180), 1);
            b.same("do not part", x.parts(0, 1), -2);
            b.same("at 180", x.coefficient(0, 180), x.coefficient(1, 180));
            x.plus(1, 1, 1);
            b.same("twice", x.parts(0, 1), 0);
        }
    }

    private static void partsOfAlikeOnes() {
        b.sentence("promise 20", "-2: they are alike;");
        for (int r = 0; r < 4; r++) {
            int register = r;
            b.leavesAll("itself", Rich.Sort.RICH, x -> x.parts(register, register), -2);
        }
        HeckeSeries x = taken("let a be six^2+1728*delta;let b be four^3;let c be six^2;let d be four^3-six^2-1728*delta;");
        b.same("made in two ways", x.parts(0, 1), -2);
        b.same("not these", x.parts(1, 2), 1);
        b.same("0", x.parts(3, 3), -2);
    }

    private static void noParts() {
        b.sentence("promise 20", "NONE: none such, of unlike WEIGHTS.");
        for (int r : NO_REGISTERS) {
            b.leavesAll("parts " + r + ", 0", Rich.Sort.RICH, x -> x.parts(r, 0), -1);
            b.leavesAll("parts 0, " + r, Rich.Sort.RICH, x -> x.parts(0, r), -1);
            b.leavesAll("parts " + r + ", " + r, Rich.Sort.RICH, x -> x.parts(r, r), -1);
        }
        int[][] unlike = {{0, 1}, {1, 0}, {0, 2}, {1, 2}, {3, 1}};
        for (int[] pair : unlike) {
            b.leavesAll("unlike weights", Rich.Sort.RICH, x -> x.parts(pair[0], pair[1]), -1);
        }
        HeckeSeries zeros = taken("let a be 0;let b be 0*four;");
        b.same("0 and 0 of unlike weights", zeros.parts(0, 1), -1);
        b.same("of one weight", Rich.Sort.RICH.made().parts(2, 3), 0);
    }
}
