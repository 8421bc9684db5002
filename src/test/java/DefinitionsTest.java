import java.math.BigInteger;

/** The numbers against whole ones, worked out anew from the document's definitions. */
public final class DefinitionsTest {
    private static final int SIZE = 181;
    private static final int[] PRIMES = {101, 103, 127, 383, 677, 1009, 4261, 9973};

    private static final Due due = new Due();
    private static final BigInteger[] one = numbers(1, 0, 0);
    private static final BigInteger[] four = numbers(1, 240, 3);
    private static final BigInteger[] six = numbers(1, -504, 5);
    private static final BigInteger[] delta = deltaOf();

    public static void main(String[] args) {
        coefficients();
        tracesByTables();
        tracesAndShares();
        classNumbers();
        heckeOfProducts();
        tables();
        polynomialsAndRoots();
        due.end();
    }

    private static BigInteger[] numbers(int first, int factor, int power) {
        BigInteger[] series = new BigInteger[SIZE];
        series[0] = BigInteger.valueOf(first);
        for (int n = 1; n < SIZE; n++) {
            series[n] = BigInteger.ZERO;
            for (int d = 1; d <= n; d++) {
                if (n % d == 0) {
                    series[n] = series[n].add(BigInteger.valueOf(d).pow(power).multiply(BigInteger.valueOf(factor)));
                }
            }
        }
        return series;
    }

    private static BigInteger[] product(BigInteger[] a, BigInteger[] b) {
        BigInteger[] series = new BigInteger[SIZE];
        for (int n = 0; n < SIZE; n++) {
            series[n] = BigInteger.ZERO;
            for (int i = 0; i <= n; i++) {
                series[n] = series[n].add(a[i].multiply(b[n - i]));
            }
        }
        return series;
    }

    private static BigInteger[] power(BigInteger[] series, int exponent) {
        BigInteger[] answer = one;
        for (int i = 0; i < exponent; i++) {
            answer = product(answer, series);
        }
        return answer;
    }

    private static BigInteger[] deltaOf() {
        BigInteger[] cube = product(product(four, four), four);
        BigInteger[] square = product(six, six);
        BigInteger[] series = new BigInteger[SIZE];
        for (int n = 0; n < SIZE; n++) {
            BigInteger[] parts = cube[n].subtract(square[n]).divideAndRemainder(BigInteger.valueOf(1728));
            due.same("delta is whole", parts[1], 0);
            series[n] = parts[0];
        }
        return series;
    }

    private static int left(BigInteger number, int prime) {
        return number.mod(BigInteger.valueOf(prime)).intValue();
    }

    /** Of each weight a few products of the three, all 181 coefficients. */
    private static void coefficients() {
        due.part("coefficients");
        for (int weight = 4; weight <= 60; weight += 2) {
            for (int j = 0; 12 * j <= weight; j++) {
                oneProduct(weight, j);
            }
        }
    }

    private static void oneProduct(int weight, int j) {
        int rest = weight - 12 * j;
        int b = rest % 4 == 0 ? 0 : 1;
        int a = (rest - 6 * b) / 4;
        if (rest - 6 * b < 0) {
            return;
        }
        BigInteger[] want = product(product(power(four, a), power(six, b)), power(delta, j));
        for (int prime : new int[] {101, 9973}) {
            HeckeSeries x = Due.with("prime " + prime + ";let a be four^" + a + "*six^" + b + "*delta^" + j + ";");
            x.take(0, 0);
            x.hecke(0, 1);
            for (int n = 0; n < SIZE; n++) {
                due.same(prime + " " + weight + " " + j + " " + n, x.coefficient(0, n), left(want[n], prime));
            }
        }
    }

    /** The trace by class numbers is the diagonal of the table, which is made in another way. */
    private static void tracesByTables() {
        due.part("traces by tables");
        for (int prime : PRIMES) {
            for (int weight = 4; weight <= 60; weight += 2) {
                HeckeSeries x = Due.with("prime " + prime + ";");
                int size = x.makes(weight, true);
                for (int n = 1; n <= 30; n++) {
                    int sum = 0;
                    for (int i = 1; i <= size; i++) {
                        sum += x.table(weight, n, i, i);
                    }
                    due.same(prime + " " + weight + " " + n, x.traceLeft(weight, n), sum % prime);
                }
            }
        }
    }

    private static void tracesAndShares() {
        due.part("traces and shares");
        for (int weight = 4; weight <= 60; weight += 2) {
            HeckeSeries x = new HeckeSeries();
            HeckeSeries y = Due.with("prime 9973;");
            for (int n = 1; n <= 60; n++) {
                BigInteger want = wholeTrace(weight, n);
                due.same("left " + weight + " " + n, x.traceLeft(weight, n), left(want, 1009));
                due.same("left " + weight + " " + n, y.traceLeft(weight, n), left(want, 9973));
                if (x.trace(weight, n) == Long.MIN_VALUE) {
                    due.same("share " + weight + " " + n, x.share(weight, n), Integer.MIN_VALUE);
                    due.same("huge " + weight + " " + n, isHuge(weight, n), true);
                } else {
                    due.same("trace " + weight + " " + n, x.trace(weight, n), want);
                    due.same("share " + weight + " " + n, x.share(weight, n), shareBits(want.longValue(), weight, n));
                    due.same("not huge " + weight + " " + n, isHuge(weight, n), false);
                }
            }
        }
    }

    private static int shareBits(long trace, int weight, int n) {
        int length = weight % 12 == 2 ? weight / 12 : weight / 12 + 1;
        if (length <= 1) {
            return Float.floatToIntBits(0f);
        }
        float r = 1f;
        for (int i = 0; i < (weight - 2) / 2; i++) {
            r *= n;
        }
        float s = n;
        for (int i = 0; i < 20; i++) {
            s = (s + n / s) / 2;
        }
        r *= s;
        return Float.floatToIntBits(trace / (2f * r * (length - 1)));
    }

    private static BigInteger[] qs(int weight, int t, int n) {
        BigInteger[] q = new BigInteger[weight + 1];
        q[2] = BigInteger.ONE;
        q[3] = BigInteger.valueOf(t);
        for (int k = 4; k <= weight; k++) {
            q[k] = q[k - 1].multiply(BigInteger.valueOf(t)).subtract(q[k - 2].multiply(BigInteger.valueOf(n)));
        }
        return q;
    }

    private static BigInteger wholeTrace(int weight, int n) {
        BigInteger sum = BigInteger.ZERO;
        for (int t = -16; t <= 16; t++) {
            if (t * t <= 4 * n) {
                sum = sum.add(qs(weight, t, n)[weight].multiply(BigInteger.valueOf(twelfths(4 * n - t * t))));
            }
        }
        for (int d = 1; d <= n; d++) {
            if (n % d == 0) {
                sum = sum.add(BigInteger.valueOf(Math.min(d, n / d)).pow(weight - 1).multiply(BigInteger.valueOf(12)));
            }
        }
        BigInteger[] parts = sum.negate().divideAndRemainder(BigInteger.valueOf(24));
        due.same("a trace is whole", parts[1], 0);
        return parts[0];
    }

    private static boolean over(BigInteger number) {
        return number.abs().compareTo(BigInteger.ONE.shiftLeft(62)) > 0;
    }

    private static boolean isHuge(int weight, int n) {
        boolean huge = false;
        BigInteger sum = BigInteger.ZERO;
        for (int t = -16; t <= 16; t++) {
            if (t * t <= 4 * n) {
                BigInteger[] q = qs(weight, t, n);
                for (int k = 4; k <= weight; k++) {
                    huge |= over(q[k]) | over(q[k - 1].multiply(BigInteger.valueOf(t)))
                            | over(q[k - 2].multiply(BigInteger.valueOf(n)));
                }
                BigInteger part = q[weight].multiply(BigInteger.valueOf(twelfths(4 * n - t * t)));
                sum = sum.add(part);
                huge |= over(part) | over(sum);
            }
        }
        for (int d = 1; d <= n; d++) {
            if (n % d == 0) {
                BigInteger part = BigInteger.valueOf(Math.min(d, n / d)).pow(weight - 1).multiply(BigInteger.valueOf(12));
                sum = sum.add(part);
                huge |= over(part) | over(sum);
            }
        }
        return huge;
    }

    private static int twelfths(int d) {
        return d == 0 ? -1 : byForms(d)[0];
    }

    /** All forms a, b, c by trying every c too: whole in twelfths, and small. */
    private static int[] byForms(int d) {
        int whole = 0;
        int small = 0;
        for (int a = 1; a * a <= d; a++) {
            for (int c = a; 4 * a * c <= d + a * a; c++) {
                for (int b = -a + 1; b <= a; b++) {
                    if (4 * a * c - b * b != d || (a == c && b < 0)) {
                        continue;
                    }
                    whole += a == b && b == c ? 4 : b == 0 && a == c ? 6 : 12;
                    BigInteger common = BigInteger.valueOf(a).gcd(BigInteger.valueOf(b)).gcd(BigInteger.valueOf(c));
                    small += common.intValue() == 1 ? 1 : 0;
                }
            }
        }
        return new int[] {whole, small};
    }

    private static void classNumbers() {
        due.part("class numbers");
        for (int d = -8; d <= 2000; d++) {
            HeckeSeries x = new HeckeSeries();
            boolean such = d >= 1 && (d % 4 == 0 || d % 4 == 3);
            int[] want = such ? byForms(d) : new int[] {d == 0 ? -1 : 0, 0};
            due.same("whole " + d, x.whole(d), want[0]);
            due.same("small " + d, x.small(d), want[1]);
        }
    }

    /** Hecke m after Hecke n is Hecke m n where m and n have nothing in common. */
    private static void heckeOfProducts() {
        due.part("hecke by hecke");
        for (int prime : PRIMES) {
            HeckeSeries x = Due.with("prime " + prime + ";let a be four^15+3*delta^2*six^6;let b be six*four^11;"
                    + "let c be delta^3*four^2*six;");
            for (int let = 0; let < 3; let++) {
                int[][] pairs = {{2, 3}, {2, 15}, {5, 6}, {4, 7}, {3, 10}, {1, 30}};
                for (int[] pair : pairs) {
                    x.take(0, let);
                    x.take(1, let);
                    x.hecke(0, pair[0]);
                    x.hecke(0, pair[1]);
                    x.hecke(1, pair[0] * pair[1]);
                    due.same("parts", x.parts(0, 1), -2);
                    due.same("at 179", x.coefficient(0, 179), x.coefficient(1, 179));
                }
            }
        }
    }

    /** Every table, from whole cusps; and its polynomial against determinants. */
    private static void tables() {
        for (int weight = 12; weight <= 60; weight += 2) {
            BigInteger[][] cusps = cuspsOf(weight);
            for (int prime : new int[] {101, 1009, 9973}) {
                for (int n = 1; n <= 30; n++) {
                    oneTable(cusps, weight, n, prime);
                }
            }
        }
    }

    /** The i-th (from 0) has 1 at i + 1 and 0 at the other places up to their number. */
    private static BigInteger[][] cuspsOf(int weight) {
        int size = weight % 12 == 2 ? weight / 12 - 1 : weight / 12;
        BigInteger[][] cusps = new BigInteger[size][];
        for (int i = size - 1; i >= 0; i--) {
            int rest = weight - 12 * (i + 1);
            int sixes = rest % 4 == 0 ? 0 : 1;
            cusps[i] = product(product(power(four, (rest - 6 * sixes) / 4), power(six, sixes)), power(delta, i + 1));
            for (int j = i + 1; j < size; j++) {
                BigInteger factor = cusps[i][j + 1];
                for (int n = 0; n < SIZE; n++) {
                    cusps[i][n] = cusps[i][n].subtract(factor.multiply(cusps[j][n]));
                }
            }
        }
        return cusps;
    }

    private static void oneTable(BigInteger[][] cusps, int weight, int n, int prime) {
        due.part("table " + weight + ", " + n + " by " + prime);
        HeckeSeries x = Due.with("prime " + prime + ";");
        int size = cusps.length;
        long[][] rows = new long[size][size];
        for (int i = 0; i < size; i++) {
            for (int j = 0; j < size; j++) {
                rows[i][j] = left(heckeAt(cusps[i], weight, n, j + 1), prime);
                due.same((i + 1) + ", " + (j + 1), x.table(weight, n, i + 1, j + 1), rows[i][j]);
            }
        }
        int[] polynomial = new int[size + 1];
        for (int i = 0; i <= size; i++) {
            polynomial[i] = x.polynomial(weight, n, i);
        }
        for (int at = 0; at <= size; at++) {
            due.same("polynomial at " + at, valueAt(polynomial, at, prime), determinantAt(rows, at, prime));
        }
    }

    private static BigInteger heckeAt(BigInteger[] series, int weight, int n, int m) {
        BigInteger sum = BigInteger.ZERO;
        for (int d = 1; d <= n; d++) {
            if (n % d == 0 && m % d == 0) {
                sum = sum.add(BigInteger.valueOf(d).pow(weight - 1).multiply(series[m * n / (d * d)]));
            }
        }
        return sum;
    }

    private static void polynomialsAndRoots() {
        due.part("polynomials and roots");
        for (int prime : PRIMES) {
            for (int weight = 0; weight <= 60; weight += 2) {
                HeckeSeries x = Due.with("prime " + prime + ";");
                int size = x.makes(weight, true);
                int[] polynomial = new int[size + 1];
                for (int i = 0; i <= size; i++) {
                    polynomial[i] = x.polynomial(weight, 2, i);
                }
                long[][] rows = new long[size][size];
                for (int i = 0; i < size; i++) {
                    for (int j = 0; j < size; j++) {
                        rows[i][j] = x.table(weight, 2, i + 1, j + 1);
                    }
                }
                for (int at = 0; at <= size; at++) {
                    due.same("at " + at, valueAt(polynomial, at, prime), determinantAt(rows, at, prime));
                }
                roots(x, weight, polynomial, prime);
            }
        }
    }

    private static long valueAt(int[] polynomial, int x, int prime) {
        long sum = 0;
        for (int i = polynomial.length - 1; i >= 0; i--) {
            sum = (sum * x + polynomial[i]) % prime;
        }
        return sum;
    }

    /** The determinant of at less the table. */
    private static long determinantAt(long[][] table, int at, int prime) {
        int size = table.length;
        long[][] rows = new long[size][size];
        for (int i = 0; i < size; i++) {
            for (int j = 0; j < size; j++) {
                rows[i][j] = (i == j ? at : 0) - table[i][j];
            }
        }
        return Math.floorMod(byMinors(rows, size, prime), (long) prime);
    }

    private static long byMinors(long[][] rows, int size, int prime) {
        if (size == 0) {
            return 1;
        }
        long sum = 0;
        for (int column = 0; column < size; column++) {
            long[][] minor = new long[size - 1][size - 1];
            for (int i = 1; i < size; i++) {
                for (int j = 0, to = 0; j < size; j++) {
                    if (j != column) {
                        minor[i - 1][to++] = rows[i][j];
                    }
                }
            }
            long part = rows[0][column] * byMinors(minor, size - 1, prime) % prime;
            sum += column % 2 == 0 ? part : -part;
        }
        return sum % prime;
    }

    private static void roots(HeckeSeries x, int weight, int[] polynomial, int prime) {
        int found = 0;
        for (int at = 0; at < prime; at++) {
            if (polynomial.length > 1 && valueAt(polynomial, at, prime) == 0) {
                due.same("root", x.root(weight, found), at);
                int own = x.own(0, weight, found);
                if (own != -2) {
                    due.same("own", own, at);
                    due.same("own's coefficient 0", x.coefficient(0, 0), 0);
                    due.same("own's coefficient 1", x.coefficient(0, 1), 1);
                    due.same("own is multiplied", x.multiplies(0, 2), at);
                }
                found++;
            }
        }
        due.same("how many roots", x.root(weight, -1), found);
    }
}
