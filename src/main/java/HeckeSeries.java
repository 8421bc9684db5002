import java.util.Arrays;
import java.util.NoSuchElementException;

/** Forms of the weights 0 to 60 by what a prime leaves, with Hecke's operators and their traces. */
public final class HeckeSeries {
    public static final int NONE = -1;

    /** The second kind of "no" that some calls have beside NONE: alike, by none, not just one. */
    private static final int NEITHER = -2;

    private static final int FIRST_PRIME = 1009;
    private static final int LEAST_PRIME = 101;
    private static final int LAST_PRIME = 9973;
    private static final int LAST_WEIGHT = 60;
    private static final int LAST_COEFFICIENT = 180;
    private static final int LAST_HECKE = 30;
    private static final int TAPE_BYTES = 600;
    private static final int FEED_BYTES = 20;
    private static final int LETS = 6;
    private static final int REGISTERS = 4;
    private static final int SHELVES = 2;
    private static final int ROWS = 4;
    private static final int IMAGES = 2;
    private static final int ROW_NUMBERS = 13;
    private static final int ROW_TRACES = 12;

    /** The most forms that it takes to make all of a weight: a form is told by so many coefficients. */
    private static final int HEAD = 6;

    private final byte[] tape = new byte[TAPE_BYTES];
    private int tapeLength;
    private int prime = FIRST_PRIME;
    private int letCount;
    private final Form[] lets = newForms(LETS);
    private final Form[] registers = newForms(REGISTERS);
    private final Shelf[] shelves = newShelves();
    private final Image[] images = new Image[IMAGES];
    private final Spaces spaces = new Spaces();
    private final Operator operator = new Operator();
    private final BookReader reader = new BookReader();
    private final Form scratch = new Form();
    private final long[] freshTraces = new long[ROW_TRACES];

    public HeckeSeries() {
        for (int k = 0; k < IMAGES; k++) {
            images[k] = new Image();
        }
        shelves[1].traces = true;
        forget();
    }

    public int feed(int a, int b, int c, int d, int e) {
        if (tapeLength + FEED_BYTES > TAPE_BYTES) {
            return NONE;
        }
        feedFour(a);
        feedFour(b);
        feedFour(c);
        feedFour(d);
        feedFour(e);
        return tapeLength;
    }

    private void feedFour(int number) {
        for (int shift = 24; shift >= 0 && tapeLength < TAPE_BYTES; shift -= 8) {
            tape[tapeLength] = (byte) (number >> shift);
            tapeLength++;
        }
    }

    public int book(int n) {
        if (n < 0 || n > tapeLength) {
            return NONE;
        }
        tapeLength = 0;
        reader.open(tape, n);
        if (!reader.readPrime() || !reader.readLets()) {
            return -2 - reader.fault;
        }
        prime = reader.prime;
        letCount = reader.letCount;
        for (int i = 0; i < letCount; i++) {
            lets[i].copyFrom(reader.lets[i]);
        }
        forget();
        return letCount;
    }

    /** What a new book brings beside its prime and lets. */
    private void forget() {
        for (int r = 0; r < REGISTERS; r++) {
            registers[r].setNumber(1);
        }
        for (int s = 0; s < SHELVES; s++) {
            shelves[s].empty();
        }
        for (int k = 0; k < IMAGES; k++) {
            images[k].laid = false;
        }
    }

    public int count(int what) {
        switch (what) {
            case 0:
                return prime;
            case 1:
                return letCount;
            case 2:
                return tapeLength;
            case 3:
                return laidImages();
            default:
                return NONE;
        }
    }

    private int laidImages() {
        int laid = 0;
        for (int k = 0; k < IMAGES; k++) {
            if (images[k].laid) {
                laid++;
            }
        }
        return laid;
    }

    public int let(int let, int what) {
        if (!isLet(let)) {
            return NONE;
        }
        Form form = lets[let];
        switch (what) {
            case 0:
                return form.weight;
            case 1:
                return lengthOf(form.weight);
            case 2:
                return form.head[0] == 0 ? 1 : 0;
            default:
                return NONE;
        }
    }

    public int coefficient(int register, int n) {
        if (!isRegister(register) || n < 0 || n > LAST_COEFFICIENT) {
            return NONE;
        }
        return coefficientOf(registers[register], n);
    }

    private int coefficientOf(Form form, int n) {
        if (n < HEAD) {
            return form.head[n];
        }
        return spaces.ready(form.weight, prime, n).expand(form.head, n);
    }

    public int weight(int register) {
        return isRegister(register) ? registers[register].weight : NONE;
    }

    // ---- how many there are, class numbers, traces

    public int makes(int weight, boolean cusps) {
        if (!isWeight(weight)) {
            return NONE;
        }
        return cusps ? cuspsOf(weight) : lengthOf(weight);
    }

    public int whole(int d) throws NoSuchElementException {
        if (d > ClassNumbers.LAST) {
            throw new NoSuchElementException();
        }
        return ClassNumbers.inTwelfths(d);
    }

    public int small(int d) {
        return ClassNumbers.ofNothingInCommon(d);
    }

    public long trace(int weight, int n) {
        if (!Traces.isAsked(weight, n)) {
            return Traces.NOT_ASKED;
        }
        return Traces.exact(weight, n);
    }

    public int traceLeft(int weight, int n) {
        if (!Traces.isAsked(weight, n)) {
            return NONE;
        }
        return Traces.left(weight, n, prime);
    }

    public int share(int weight, int n) {
        if (!Traces.isAsked(weight, n)) {
            return Integer.MIN_VALUE;
        }
        long exact = Traces.exact(weight, n);
        if (exact == Traces.HUGE) {
            return Integer.MIN_VALUE;
        }
        return Traces.bitsOf(Traces.shareOf(exact, weight, n));
    }

    // ---- registers

    public int take(int register, int let) {
        if (!isRegister(register) || !isLet(let)) {
            return NONE;
        }
        registers[register].copyFrom(lets[let]);
        return registers[register].weight;
    }

    public boolean plus(int r, int s, int f) {
        if (!isRegister(r) || !isRegister(s) || registers[r].weight != registers[s].weight) {
            return false;
        }
        registers[r].add(registers[s], Left.of(f, prime), prime);
        return true;
    }

    public int times(int r, int s) {
        if (!isRegister(r) || !isRegister(s)
                || registers[r].weight + registers[s].weight > LAST_WEIGHT) {
            return NONE;
        }
        registers[r].multiplyBy(registers[s], prime);
        return registers[r].weight;
    }

    /** Hecke n of a form's last coefficient that tells it needs the one n times as far on. */
    private Space readyForHecke(int weight, int n) {
        return spaces.ready(weight, prime, cuspsOf(weight) * n);
    }

    public boolean hecke(int r, int n) {
        if (!isRegister(r) || !isHecke(n)) {
            return false;
        }
        Form form = registers[r];
        Space space = readyForHecke(form.weight, n);
        for (int m = 0; m < space.length; m++) {
            scratch.head[m] = space.heckeAt(form.head, n, m);
        }
        space.complete(scratch);
        form.copyFrom(scratch);
        return true;
    }

    public int multiplies(int r, int n) {
        if (!isRegister(r) || !isHecke(n)) {
            return NONE;
        }
        int[] head = registers[r].head;
        int first = registers[r].firstNotZero();
        if (first < 0) {
            return NEITHER;
        }
        Space space = readyForHecke(registers[r].weight, n);
        int factor = Left.divide(space.heckeAt(head, n, first), head[first], prime);
        for (int m = 0; m < space.length; m++) {
            if (space.heckeAt(head, n, m) != Left.of((long) factor * head[m], prime)) {
                return NEITHER;
            }
        }
        return factor;
    }

    public int alike(int r, int s, int n) {
        if (!isRegister(r) || !isRegister(s) || n < 0 || n > LAST_COEFFICIENT) {
            return NONE;
        }
        if (registers[r].weight != registers[s].weight) {
            return 0;
        }
        int parting = partingPlace(registers[r], registers[s]);
        return parting < 0 || parting > n ? 1 : 0;
    }

    public int parts(int r, int s) {
        if (!isRegister(r) || !isRegister(s) || registers[r].weight != registers[s].weight) {
            return NONE;
        }
        return partingPlace(registers[r], registers[s]);
    }

    /** Forms of one weight that are alike in their heads are alike in all, so no more is looked at. */
    private static int partingPlace(Form one, Form other) {
        for (int n = 0; n < HEAD; n++) {
            if (one.head[n] != other.head[n]) {
                return n;
            }
        }
        return NEITHER;
    }

    // ---- tables, roots, own ones

    public int table(int weight, int n, int i, int j) {
        if (!isWeight(weight) || !isHecke(n)) {
            return NONE;
        }
        int size = cuspsOf(weight);
        if (i < 1 || i > size || j < 1 || j > size) {
            return NONE;
        }
        Space space = readyForHecke(weight, n);
        return space.heckeAt(space.basis[i], n, j);
    }

    public int polynomial(int weight, int n, int i) {
        if (!isWeight(weight) || !isHecke(n) || i < 0 || i > cuspsOf(weight)) {
            return NONE;
        }
        operator.load(readyForHecke(weight, n), n);
        operator.findPolynomial();
        return operator.polynomial[i];
    }

    public int root(int weight, int i) {
        if (!isWeight(weight)) {
            return NONE;
        }
        Space space = spaceWithRoots(weight);
        if (i == NONE) {
            return space.rootCount;
        }
        return i >= 0 && i < space.rootCount ? space.roots[i] : NONE;
    }

    private Space spaceWithRoots(int weight) {
        Space space = spaces.ready(weight, prime, cuspsOf(weight) * 2);
        if (space.rootsFor != prime) {
            operator.load(space, 2);
            operator.findPolynomial();
            space.rootCount = operator.findRoots(space.roots);
            space.rootsFor = prime;
        }
        return space;
    }

    public int own(int r, int weight, int i) {
        if (!isRegister(r) || !isWeight(weight)) {
            return NONE;
        }
        Space space = spaceWithRoots(weight);
        if (i < 0 || i >= space.rootCount) {
            return NONE;
        }
        operator.load(space, 2);
        scratch.setNumber(0);
        if (!operator.findOwn(space.roots[i], scratch.head)) {
            return NEITHER;
        }
        space.complete(scratch);
        registers[r].copyFrom(scratch);
        return space.roots[i];
    }

    // ---- shelves, images

    public boolean put(int shelf, int row, boolean traces, int weight) {
        if (!isRow(shelf, row) || (traces && !Traces.isAsked(weight, 1))
                || shelves[shelf].traces != traces) {
            return false;
        }
        long[] numbers = shelves[shelf].rows[row];
        if (traces) {
            if (!findFreshTraces(weight)) {
                return false;
            }
            System.arraycopy(freshTraces, 0, numbers, 0, ROW_TRACES);
        } else {
            for (int n = 0; n < ROW_NUMBERS; n++) {
                numbers[n] = coefficientOf(registers[0], n);
            }
        }
        shelves[shelf].filled[row] = true;
        return true;
    }

    /** They are held apart first: a huge one among them leaves the row as it was. */
    private boolean findFreshTraces(int weight) {
        for (int n = 1; n <= ROW_TRACES; n++) {
            freshTraces[n - 1] = Traces.exact(weight, n);
            if (freshTraces[n - 1] == Traces.HUGE) {
                return false;
            }
        }
        return true;
    }

    public long row(int shelf, int row, int i) throws NoSuchElementException {
        if (!isRow(shelf, row) || !shelves[shelf].filled[row]
                || i < 0 || i >= shelves[shelf].numbersInRow()) {
            throw new NoSuchElementException();
        }
        return shelves[shelf].rows[row][i];
    }

    public int swap() {
        for (int s = 0; s < SHELVES; s++) {
            shelves[s].traces = !shelves[s].traces;
            shelves[s].empty();
        }
        return shelves[0].traces ? 1 : 0;
    }

    public boolean image(int k, boolean back) {
        if (k < 0 || k >= IMAGES) {
            return false;
        }
        if (!back) {
            images[k].lay(registers, shelves);
            return true;
        }
        return images[k].bringBack(registers, shelves);
    }

    // ---- what can be asked for

    private static boolean isRegister(int r) {
        return r >= 0 && r < REGISTERS;
    }

    private boolean isLet(int let) {
        return let >= 0 && let < letCount;
    }

    private static boolean isWeight(int weight) {
        return weight >= 0 && weight <= LAST_WEIGHT && weight % 2 == 0;
    }

    private static boolean isHecke(int n) {
        return n >= 1 && n <= LAST_HECKE;
    }

    private static boolean isRow(int shelf, int row) {
        return shelf >= 0 && shelf < SHELVES && row >= 0 && row < ROWS;
    }

    private static int lengthOf(int weight) {
        return weight % 12 == 2 ? weight / 12 : weight / 12 + 1;
    }

    private static int cuspsOf(int weight) {
        return Math.max(lengthOf(weight) - 1, 0);
    }

    private static Form[] newForms(int many) {
        Form[] forms = new Form[many];
        for (int i = 0; i < many; i++) {
            forms[i] = new Form();
        }
        return forms;
    }

    private static Shelf[] newShelves() {
        Shelf[] made = new Shelf[SHELVES];
        for (int i = 0; i < SHELVES; i++) {
            made[i] = new Shelf();
        }
        return made;
    }

    /** Reckoning by what a prime leaves; a prime of 0 or less, which nothing here has, gives 0. */
    private static final class Left {
        static int of(long number, int prime) {
            if (prime <= 0) {
                return 0;
            }
            int left = (int) (number % prime);
            return left < 0 ? left + prime : left;
        }

        static int power(int base, int exponent, int prime) {
            int answer = 1;
            int square = of(base, prime);
            for (int rest = exponent; rest > 0; rest >>= 1) {
                if ((rest & 1) == 1) {
                    answer = of((long) answer * square, prime);
                }
                square = of((long) square * square, prime);
            }
            return answer;
        }

        static int divide(int number, int divisor, int prime) {
            return of((long) number * power(divisor, prime - 2, prime), prime);
        }
    }

    /** A form, told by its first coefficients: as many as any weight needs, so products hold too. */
    private static final class Form {
        int weight;
        final int[] head = new int[HEAD];

        void setNumber(int number) {
            weight = 0;
            Arrays.fill(head, 0);
            head[0] = number;
        }

        void copyFrom(Form other) {
            weight = other.weight;
            System.arraycopy(other.head, 0, head, 0, HEAD);
        }

        void add(Form other, int factor, int prime) {
            for (int n = 0; n < HEAD; n++) {
                head[n] = Left.of(head[n] + (long) factor * other.head[n], prime);
            }
        }

        /** From the last coefficient down: each needs only those not yet overwritten, even by itself. */
        void multiplyBy(Form other, int prime) {
            for (int n = HEAD - 1; n >= 0; n--) {
                long sum = 0;
                for (int i = 0; i <= n; i++) {
                    sum += (long) head[i] * other.head[n - i];
                }
                head[n] = Left.of(sum, prime);
            }
            weight += other.weight;
        }

        int firstNotZero() {
            for (int n = 0; n < HEAD; n++) {
                if (head[n] != 0) {
                    return n;
                }
            }
            return NONE;
        }
    }

    /**
     * All forms of one weight: basis form i has coefficient i being 1 and the others of 0 to length
     * less 1 being 0, so a form's head is also the row of factors that makes it of the basis.
     */
    private static final class Space {
        final int weight;
        final int length;
        int[][] basis = new int[0][0];
        int prime;
        /** The last coefficient that the rows of the basis tell. */
        private int last;
        final int[] roots = new int[HEAD];
        int rootCount;
        int rootsFor;

        Space(int weight) {
            this.weight = weight;
            this.length = lengthOf(weight);
        }

        boolean isReady(int wantedPrime, int wantedLast) {
            return prime == wantedPrime && last >= wantedLast;
        }

        /** Rows are made when they are first needed, once: most objects use few weights. */
        private void begin(int newPrime, int newLast) {
            prime = newPrime;
            last = newLast;
            if (basis.length != length) {
                basis = new int[length][LAST_COEFFICIENT + 1];
            }
        }

        /** Weights with one form alone: with 1 at first, it is ONE or a series of sums of powers. */
        void makeAlone(int newPrime, int newLast) {
            begin(newPrime, newLast);
            int[] series = basis[0];
            Arrays.fill(series, 0);
            int factor = Left.of(factorOfSums(), prime);
            for (int d = 1; d <= last; d++) {
                int power = Left.power(d, weight - 1, prime);
                for (int n = d; n <= last; n += d) {
                    series[n] += power;
                }
            }
            for (int n = 1; n <= last; n++) {
                series[n] = Left.of((long) series[n] * factor, prime);
            }
            series[0] = 1;
        }

        private int factorOfSums() {
            switch (weight) {
                case 0:
                    return 0;
                case 4:
                    return 240;
                case 6:
                    return -504;
                case 8:
                    return 480;
                case 10:
                    return -264;
                default:
                    return -24;
            }
        }

        void makeTwelve(Space four, Space six, Space eight, int newLast) {
            begin(four.prime, newLast);
            int[] cube = basis[0];
            int[] delta = basis[1];
            multiply(cube, four.basis[0], eight.basis[0]);
            multiply(delta, six.basis[0], six.basis[0]);
            int part = Left.divide(1, 1728, prime);
            for (int n = 0; n <= last; n++) {
                delta[n] = Left.of((long) (cube[n] - delta[n]) * part, prime);
            }
            reduce();
        }

        void makeFrom(Space lower, Space twelve, int newLast) {
            begin(twelve.prime, newLast);
            multiply(basis[0], lower.basis[0], twelve.basis[0]);
            for (int i = 1; i < length; i++) {
                multiply(basis[i], lower.basis[i - 1], twelve.basis[1]);
            }
            reduce();
        }

        private void multiply(int[] into, int[] one, int[] other) {
            for (int n = 0; n <= last; n++) {
                long sum = 0;
                for (int i = 0; i <= n; i++) {
                    sum += (long) one[i] * other[n - i];
                }
                into[n] = Left.of(sum, prime);
            }
        }

        /** Row i begins with 1 at i; rows behind it, already clean, take away what stands behind. */
        private void reduce() {
            for (int i = length - 2; i >= 0; i--) {
                for (int j = i + 1; j < length; j++) {
                    subtract(basis[i], basis[j], basis[i][j]);
                }
            }
        }

        private void subtract(int[] from, int[] other, int factor) {
            for (int n = 0; n <= last; n++) {
                from[n] = Left.of(from[n] - (long) factor * other[n], prime);
            }
        }

        /** Coefficient n of the form with this head. */
        int expand(int[] head, int n) {
            long sum = 0;
            for (int j = 0; j < length; j++) {
                sum += (long) head[j] * basis[j][n];
            }
            return Left.of(sum, prime);
        }

        /** Makes a form of this weight of the coefficients 0 to length less 1 in its head. */
        void complete(Form form) {
            form.weight = weight;
            for (int n = length; n < HEAD; n++) {
                form.head[n] = expand(form.head, n);
            }
        }

        /** Coefficient m (below length) of Hecke n of the form with this head. */
        int heckeAt(int[] head, int n, int m) {
            if (weight < 4) {
                return 0;
            }
            int sum = 0;
            for (int d = 1; d <= n; d++) {
                if (n % d == 0 && m % d == 0) {
                    long power = Left.power(d, weight - 1, prime);
                    sum = Left.of(sum + power * expand(head, m / d * (n / d)), prime);
                }
            }
            return sum;
        }
    }

    /** The spaces of all weights; each is worked out when it is first asked for with a prime. */
    private static final class Spaces {
        private static final int STEP = 12;
        /** Most calls need few coefficients: rows up to here cost a small part of whole ones. */
        private static final int NEAR = 36;

        private final Space[] all = new Space[LAST_WEIGHT / 2 + 1];

        Spaces() {
            for (int i = 0; i < all.length; i++) {
                all[i] = new Space(2 * i);
            }
        }

        /** The space of a weight, with coefficients 0 to n at least. */
        Space ready(int weight, int prime, int n) {
            Space wanted = all[weight / 2];
            int last = n <= NEAR ? NEAR : LAST_COEFFICIENT;
            if (wanted.isReady(prime, last)) {
                return wanted;
            }
            int least = weight % STEP == 2 ? STEP + 2 : weight % STEP;
            if (least <= weight) {
                makeAlone(least, prime, last);
            }
            if (least < weight) {
                makeTwelve(prime, last);
            }
            for (int made = least + STEP; made <= weight; made += STEP) {
                if (!all[made / 2].isReady(prime, last)) {
                    all[made / 2].makeFrom(all[(made - STEP) / 2], all[STEP / 2], last);
                }
            }
            return wanted;
        }

        private void makeAlone(int weight, int prime, int last) {
            if (!all[weight / 2].isReady(prime, last)) {
                all[weight / 2].makeAlone(prime, last);
            }
        }

        private void makeTwelve(int prime, int last) {
            if (!all[STEP / 2].isReady(prime, last)) {
                makeAlone(4, prime, last);
                makeAlone(6, prime, last);
                makeAlone(8, prime, last);
                all[STEP / 2].makeTwelve(all[4 / 2], all[6 / 2], all[8 / 2], last);
            }
        }
    }

    /** An operator as a table on the cusps of a weight, with its polynomial. */
    private static final class Operator {
        final int[] polynomial = new int[HEAD];
        private final int[][] table = new int[HEAD - 1][HEAD - 1];
        private final int[][] work = new int[HEAD - 1][HEAD - 1];
        private final int[][] product = new int[HEAD - 1][HEAD - 1];
        private int size;
        private int prime;

        void load(Space space, int n) {
            size = cuspsOf(space.weight);
            prime = space.prime;
            for (int i = 0; i < size; i++) {
                for (int j = 0; j < size; j++) {
                    table[i][j] = space.heckeAt(space.basis[i + 1], n, j + 1);
                }
            }
        }

        /** By Faddeev and LeVerrier; it divides by 1 to 5 alone, which no prime here goes into. */
        void findPolynomial() {
            for (int i = 0; i < size; i++) {
                Arrays.fill(product[i], 0);
            }
            polynomial[size] = 1;
            for (int step = 1; step <= size; step++) {
                takeProduct(polynomial[size - step + 1]);
                multiplyTableByWork();
                long diagonal = 0;
                for (int i = 0; i < size; i++) {
                    diagonal += product[i][i];
                }
                polynomial[size - step] = Left.divide(Left.of(-diagonal, prime), step, prime);
            }
        }

        private void takeProduct(int ontoDiagonal) {
            for (int i = 0; i < size; i++) {
                System.arraycopy(product[i], 0, work[i], 0, size);
                work[i][i] = Left.of(work[i][i] + ontoDiagonal, prime);
            }
        }

        private void multiplyTableByWork() {
            for (int i = 0; i < size; i++) {
                for (int j = 0; j < size; j++) {
                    long sum = 0;
                    for (int k = 0; k < size; k++) {
                        sum += (long) table[i][k] * work[k][j];
                    }
                    product[i][j] = Left.of(sum, prime);
                }
            }
        }

        int findRoots(int[] roots) {
            int found = 0;
            for (int x = 0; x < prime && found < size; x++) {
                if (polynomialAt(x) == 0) {
                    roots[found] = x;
                    found++;
                }
            }
            return found;
        }

        private int polynomialAt(int x) {
            int sum = 0;
            for (int i = size; i >= 0; i--) {
                sum = Left.of((long) sum * x + polynomial[i], prime);
            }
            return sum;
        }

        /**
         * The factors of the cusps (the first being 1) that make the form which the table
         * multiplies by the root, into a head's places 1 to size; false if there are none or several.
         */
        boolean findOwn(int root, int[] head) {
            layEquations(root);
            int unknowns = size - 1;
            for (int column = 0; column < unknowns; column++) {
                if (!liftPivot(column)) {
                    return false;
                }
                clearColumn(column);
            }
            if (unknowns < 0 || work[unknowns][unknowns] != 0) {
                return false;
            }
            head[1] = 1;
            for (int i = 0; i < unknowns; i++) {
                head[i + 2] = work[i][unknowns];
            }
            return true;
        }

        /** An equation for each column of the table; the first cusp's factor is known: last column. */
        private void layEquations(int root) {
            for (int j = 0; j < size; j++) {
                for (int i = 1; i < size; i++) {
                    work[j][i - 1] = Left.of(table[i][j] - (i == j ? root : 0), prime);
                }
                work[j][size - 1] = Left.of((j == 0 ? root : 0) - table[0][j], prime);
            }
        }

        private boolean liftPivot(int column) {
            for (int row = column; row < size; row++) {
                if (work[row][column] != 0) {
                    exchange(work[row], work[column]);
                    return true;
                }
            }
            return false;
        }

        private void exchange(int[] one, int[] other) {
            for (int j = 0; j < size; j++) {
                int held = one[j];
                one[j] = other[j];
                other[j] = held;
            }
        }

        private void clearColumn(int pivot) {
            int part = Left.divide(1, work[pivot][pivot], prime);
            for (int j = 0; j < size; j++) {
                work[pivot][j] = Left.of((long) work[pivot][j] * part, prime);
            }
            for (int row = 0; row < size; row++) {
                int factor = work[row][pivot];
                if (row != pivot && factor != 0) {
                    for (int j = 0; j < size; j++) {
                        work[row][j] = Left.of(work[row][j] - (long) factor * work[pivot][j], prime);
                    }
                }
            }
        }
    }

    /** Class numbers by going through the forms a, b, c themselves. */
    private static final class ClassNumbers {
        static final int LAST = 2000;

        static int inTwelfths(int d) {
            if (d == 0) {
                return -1;
            }
            return isDiscriminant(d) ? addUp(d, false) : 0;
        }

        static int ofNothingInCommon(int d) {
            return isDiscriminant(d) ? addUp(d, true) : 0;
        }

        private static boolean isDiscriminant(int d) {
            return d >= 1 && d <= LAST && (d % 4 == 0 || d % 4 == 3);
        }

        private static int addUp(int d, boolean small) {
            int sum = 0;
            for (int a = 1; 3 * a * a <= d; a++) {
                for (int b = 1 - a; b <= a; b++) {
                    int ac = d + b * b;
                    int c = ac / (4 * a);
                    if (ac % (4 * a) == 0 && (c > a || (c == a && b >= 0))) {
                        sum += small ? onlyIfPrimitive(a, b, c) : twelfths(a, b, c);
                    }
                }
            }
            return sum;
        }

        private static int onlyIfPrimitive(int a, int b, int c) {
            for (int d = 2; d <= a; d++) {
                if (a % d == 0 && b % d == 0 && c % d == 0) {
                    return 0;
                }
            }
            return 1;
        }

        private static int twelfths(int a, int b, int c) {
            if (a != c) {
                return 12;
            }
            if (b == 0) {
                return 6;
            }
            return a == b ? 4 : 12;
        }
    }

    /** Traces by class numbers: whole, by what a prime leaves, and as shares. */
    private static final class Traces {
        static final long HUGE = Long.MIN_VALUE;
        static final long NOT_ASKED = Long.MIN_VALUE + 1;

        private static final long LIMIT = 1L << 62;
        private static final int LAST_N = 60;
        private static final int ROOT_STEPS = 20;
        private static final int MOST_DOUBLINGS = 150;
        private static final int LEAST_MANTISSA = 1 << 23;
        /** The exponent in a float's bits when its mantissa is read as a whole number. */
        private static final int WHOLE_EXPONENT = 150;

        static boolean isAsked(int weight, int n) {
            return isWeight(weight) && weight >= 4 && n >= 1 && n <= LAST_N;
        }

        static long exact(int weight, int n) {
            long sum = 0;
            int reach = reachOf(n);
            for (int t = -reach; t <= reach; t++) {
                long twelfths = ClassNumbers.inTwelfths(4 * n - t * t);
                sum = add(sum, multiply(exactQ(weight, t, n), twelfths));
            }
            for (int d = 1; d <= n; d++) {
                if (n % d == 0) {
                    sum = add(sum, multiply(exactPower(Math.min(d, n / d), weight - 1), 12));
                }
            }
            return sum == HUGE ? HUGE : -sum / 24;
        }

        /** The greatest t with t t at most 4 n. */
        private static int reachOf(int n) {
            int t = 0;
            for (int next = 1; next * next <= 4 * n; next++) {
                t = next;
            }
            return t;
        }

        private static long exactQ(int weight, int t, int n) {
            long before = 1;
            long last = t;
            for (int k = 4; k <= weight; k++) {
                long next = add(multiply(t, last), multiply(-n, before));
                before = last;
                last = next;
            }
            return last;
        }

        private static long exactPower(int base, int exponent) {
            long power = 1;
            for (int i = 0; i < exponent; i++) {
                power = multiply(power, base);
            }
            return power;
        }

        private static long add(long a, long b) {
            if (a == HUGE || b == HUGE) {
                return HUGE;
            }
            return a + b > LIMIT || a + b < -LIMIT ? HUGE : a + b;
        }

        private static long multiply(long a, long b) {
            if (a == HUGE || b == HUGE) {
                return HUGE;
            }
            if (b == 0) {
                return 0;
            }
            return Math.abs(a) > LIMIT / Math.abs(b) ? HUGE : a * b;
        }

        static int left(int weight, int n, int prime) {
            long sum = 0;
            int reach = reachOf(n);
            for (int t = -reach; t <= reach; t++) {
                sum += (long) leftQ(weight, t, n, prime) * ClassNumbers.inTwelfths(4 * n - t * t);
            }
            for (int d = 1; d <= n; d++) {
                if (n % d == 0) {
                    sum += 12L * Left.power(Math.min(d, n / d), weight - 1, prime);
                }
            }
            return Left.divide(Left.of(-sum, prime), 24, prime);
        }

        private static int leftQ(int weight, int t, int n, int prime) {
            int before = 1;
            int last = Left.of(t, prime);
            for (int k = 4; k <= weight; k++) {
                int next = Left.of((long) t * last - (long) n * before, prime);
                before = last;
                last = next;
            }
            return last;
        }

        static float shareOf(long exact, int weight, int n) {
            int cusps = cuspsOf(weight);
            if (cusps == 0) {
                return 0f;
            }
            float size = 1f;
            for (int i = 0; i < (weight - 2) / 2; i++) {
                size = size * (float) n;
            }
            float root = (float) n;
            for (int i = 0; i < ROOT_STEPS; i++) {
                root = (root + (float) n / root) / 2f;
            }
            size = size * root;
            return (float) exact / (2f * size * (float) cusps);
        }

        /**
         * As Float.floatToIntBits, which LANGUAGE.md leaves out, of what a share can be: 0, or with
         * a size between 2 to the -100 and 2 to the 24.
         */
        static int bitsOf(float number) {
            if (number == 0f) {
                return 0;
            }
            float mantissa = number < 0f ? -number : number;
            int exponent = WHOLE_EXPONENT;
            for (int i = 0; i < MOST_DOUBLINGS && mantissa < (float) LEAST_MANTISSA; i++) {
                mantissa = mantissa * 2f;
                exponent--;
            }
            int sign = number < 0f ? Integer.MIN_VALUE : 0;
            return sign | (exponent << 23) | ((int) mantissa - LEAST_MANTISSA);
        }
    }

    /** A shelf's rows are all of its one sort; rows of traces leave the last place unused. */
    private static final class Shelf {
        boolean traces;
        final boolean[] filled = new boolean[ROWS];
        final long[][] rows = new long[ROWS][ROW_NUMBERS];

        int numbersInRow() {
            return traces ? ROW_TRACES : ROW_NUMBERS;
        }

        void empty() {
            for (int row = 0; row < ROWS; row++) {
                filled[row] = false;
            }
        }

        void copyFrom(Shelf other) {
            traces = other.traces;
            for (int row = 0; row < ROWS; row++) {
                filled[row] = other.filled[row];
                System.arraycopy(other.rows[row], 0, rows[row], 0, ROW_NUMBERS);
            }
        }
    }

    private static final class Image {
        boolean laid;
        private final Form[] heldRegisters = newForms(REGISTERS);
        private final Shelf[] heldShelves = newShelves();

        void lay(Form[] registers, Shelf[] shelves) {
            copyAll(registers, shelves, heldRegisters, heldShelves);
            laid = true;
        }

        /** The sorts are kept beside the rows only to be asked here: they are never brought back. */
        boolean bringBack(Form[] registers, Shelf[] shelves) {
            if (!laid) {
                return false;
            }
            for (int s = 0; s < SHELVES; s++) {
                if (shelves[s].traces != heldShelves[s].traces) {
                    return false;
                }
            }
            copyAll(heldRegisters, heldShelves, registers, shelves);
            return true;
        }

        private static void copyAll(Form[] fromForms, Shelf[] fromShelves,
                Form[] toForms, Shelf[] toShelves) {
            for (int r = 0; r < REGISTERS; r++) {
                toForms[r].copyFrom(fromForms[r]);
            }
            for (int s = 0; s < SHELVES; s++) {
                toShelves[s].copyFrom(fromShelves[s]);
            }
        }
    }

    /** A text as tokens; signs are their own kind. Behind the last one stands END. */
    private static final class Tokens {
        static final int END = 0;
        /** What no book goes on with, wherever it stands. */
        static final int BAD = 1;
        static final int NAME = 2;
        static final int NUMBER = 3;
        static final int PRIME = 4;
        static final int LET = 5;
        static final int BE = 6;
        static final int FOUR = 7;
        static final int SIX = 8;
        static final int DELTA = 9;

        private static final int MOST_LETTERS = 6;
        private static final int MOST_DIGITS = 4;

        final int[] kinds = new int[TAPE_BYTES + 1];
        final int[] places = new int[TAPE_BYTES + 1];
        /** Of a name a number of its own, of a NUMBER its value, or NONE if it has too many digits. */
        final int[] values = new int[TAPE_BYTES + 1];
        int count;

        void scan(byte[] text, int length) {
            count = 0;
            for (int at = 0; at < length; at++) {
                int sign = text[at];
                int before = at > 0 ? text[at - 1] : ' ';
                if (isLetter(sign)) {
                    if (!isLetter(before)) {
                        addWord(text, at, endOfWord(text, at, length));
                    }
                } else if (isDigit(sign)) {
                    if (!isDigit(before)) {
                        addToken(NUMBER, at, numberOf(text, at, endOfNumber(text, at, length)));
                    }
                } else if (sign != ' ' && sign != '\n') {
                    addToken(isSign(sign) ? sign : BAD, at, 0);
                }
            }
            kinds[count] = END;
            places[count] = length;
        }

        private void addToken(int kind, int place, int value) {
            kinds[count] = kind;
            places[count] = place;
            values[count] = value;
            count++;
        }

        private void addWord(byte[] text, int from, int to) {
            if (to - from > MOST_LETTERS) {
                addToken(BAD, from, 0);
                return;
            }
            int own = 0;
            for (int i = from; i < to; i++) {
                own = own * 32 + (text[i] - 'a' + 1);
            }
            addToken(kindOfWord(text, from, to), from, own);
        }

        private static int kindOfWord(byte[] text, int from, int to) {
            if (isWord(text, from, to, "prime")) {
                return PRIME;
            }
            if (isWord(text, from, to, "let")) {
                return LET;
            }
            if (isWord(text, from, to, "be")) {
                return BE;
            }
            if (isWord(text, from, to, "four")) {
                return FOUR;
            }
            if (isWord(text, from, to, "six")) {
                return SIX;
            }
            return isWord(text, from, to, "delta") ? DELTA : NAME;
        }

        private static boolean isWord(byte[] text, int from, int to, String word) {
            if (to - from != word.length()) {
                return false;
            }
            for (int i = from; i < to; i++) {
                if (text[i] != word.charAt(i - from)) {
                    return false;
                }
            }
            return true;
        }

        private static int endOfWord(byte[] text, int from, int length) {
            int end = from;
            while (end < length && isLetter(text[end])) {
                end++;
            }
            return end;
        }

        private static int endOfNumber(byte[] text, int from, int length) {
            int end = from;
            while (end < length && isDigit(text[end])) {
                end++;
            }
            return end;
        }

        private static int numberOf(byte[] text, int from, int to) {
            if (to - from > MOST_DIGITS) {
                return NONE;
            }
            int value = 0;
            for (int i = from; i < to; i++) {
                value = value * 10 + (text[i] - '0');
            }
            return value;
        }

        private static boolean isLetter(int sign) {
            return sign >= 'a' && sign <= 'z';
        }

        private static boolean isDigit(int sign) {
            return sign >= '0' && sign <= '9';
        }

        private static boolean isSign(int sign) {
            return sign == ';' || sign == '+' || sign == '-' || sign == '*' || sign == '^'
                    || sign == '(' || sign == ')';
        }
    }

    /** Reads a book and works out its lets at once; what it finds is taken over only without fault. */
    private static final class BookReader {
        private static final int UNEXPECTED = 1;
        private static final int NAME_GIVEN_TWICE = 2;
        private static final int NAME_UNKNOWN = 3;
        private static final int BAD_NUMBER = 4;
        private static final int TOO_MANY = 5;
        private static final int UNLIKE_WEIGHT = 6;
        private static final int WEIGHT_TOO_GREAT = 7;

        private static final int MOST_DEPTH = 8;
        private static final int LAST_EXPONENT = 15;

        private static final int[] FOUR_HEAD = {1, 240, 2160, 6720, 17520, 30240};
        private static final int[] SIX_HEAD = {1, -504, -16632, -122976, -532728, -1575504};
        private static final int[] DELTA_HEAD = {0, 1, -24, 252, -1472, 4830};

        /** 8 times the place and the kind, of the first fault. */
        int fault;
        int prime;
        int letCount;
        final Form[] lets = newForms(LETS);
        private final int[] names = new int[LETS];
        private final Tokens tokens = new Tokens();
        private int index;
        /** A form for each depth of brackets, as what stands outside waits for what stands inside. */
        private final Form[] sums = newForms(MOST_DEPTH + 1);
        private final Form[] products = newForms(MOST_DEPTH + 1);
        private final Form[] powers = newForms(MOST_DEPTH + 1);
        private final Form base = new Form();

        void open(byte[] text, int length) {
            tokens.scan(text, length);
            index = 0;
            prime = FIRST_PRIME;
            letCount = 0;
        }

        private int kind() {
            return tokens.kinds[index];
        }

        private int value() {
            return tokens.values[index];
        }

        /** The token at END stays the one that is read. */
        private void goOn() {
            if (index < tokens.count) {
                index++;
            }
        }

        private boolean fail(int kindOfFault, int tokenIndex) {
            fault = 8 * tokens.places[tokenIndex] + kindOfFault;
            return false;
        }

        private boolean expect(int kind) {
            if (kind() != kind) {
                return fail(UNEXPECTED, index);
            }
            goOn();
            return true;
        }

        boolean readPrime() {
            if (kind() != Tokens.PRIME) {
                return true;
            }
            goOn();
            if (kind() != Tokens.NUMBER) {
                return fail(UNEXPECTED, index);
            }
            if (!isPrime(value())) {
                return fail(BAD_NUMBER, index);
            }
            prime = value();
            goOn();
            return expect(';');
        }

        private static boolean isPrime(int number) {
            if (number < LEAST_PRIME || number > LAST_PRIME) {
                return false;
            }
            for (int d = 2; d * d <= number; d++) {
                if (number % d == 0) {
                    return false;
                }
            }
            return true;
        }

        /** One round more than there may be lets: the last one can but find a fault. */
        boolean readLets() {
            for (int i = 0; i <= LETS && kind() != Tokens.END; i++) {
                if (kind() == Tokens.LET && letCount >= LETS) {
                    return fail(TOO_MANY, index);
                }
                if (!expect(Tokens.LET)) {
                    return false;
                }
                int name = value();
                if (kind() == Tokens.NAME && findLet(name) != NONE) {
                    return fail(NAME_GIVEN_TWICE, index);
                }
                if (!expect(Tokens.NAME) || !expect(Tokens.BE) || !readSum(0) || !expect(';')) {
                    return false;
                }
                names[letCount] = name;
                lets[letCount].copyFrom(sums[0]);
                letCount++;
            }
            return true;
        }

        private int findLet(int name) {
            for (int i = 0; i < letCount; i++) {
                if (names[i] == name) {
                    return i;
                }
            }
            return NONE;
        }

        /** Into sums; depth: how many brackets are open, at most MOST_DEPTH. */
        private boolean readSum(int depth) {
            if (!readProduct(depth)) {
                return false;
            }
            Form sum = sums[depth];
            Form product = products[depth];
            sum.copyFrom(product);
            for (int i = 0; i < tokens.count && (kind() == '+' || kind() == '-'); i++) {
                int factor = kind() == '+' ? 1 : prime - 1;
                goOn();
                int first = index;
                if (!readProduct(depth)) {
                    return false;
                }
                if (product.weight != sum.weight) {
                    return fail(UNLIKE_WEIGHT, first);
                }
                sum.add(product, factor, prime);
            }
            return true;
        }

        private boolean readProduct(int depth) {
            if (!readPower(depth)) {
                return false;
            }
            Form product = products[depth];
            Form power = powers[depth];
            product.copyFrom(power);
            for (int i = 0; i < tokens.count && kind() == '*'; i++) {
                goOn();
                int first = index;
                if (!readPower(depth)) {
                    return false;
                }
                if (product.weight + power.weight > LAST_WEIGHT) {
                    return fail(WEIGHT_TOO_GREAT, first);
                }
                product.multiplyBy(power, prime);
            }
            return true;
        }

        private boolean readPower(int depth) {
            int first = index;
            if (!readAtom(depth)) {
                return false;
            }
            if (kind() != '^') {
                return true;
            }
            goOn();
            if (kind() != Tokens.NUMBER) {
                return fail(UNEXPECTED, index);
            }
            int exponent = value();
            if (exponent < 0 || exponent > LAST_EXPONENT) {
                return fail(BAD_NUMBER, index);
            }
            goOn();
            if (powers[depth].weight * exponent > LAST_WEIGHT) {
                return fail(WEIGHT_TOO_GREAT, first);
            }
            raise(powers[depth], exponent);
            return true;
        }

        private void raise(Form form, int exponent) {
            base.copyFrom(form);
            form.setNumber(1);
            for (int i = 0; i < exponent; i++) {
                form.multiplyBy(base, prime);
            }
        }

        private boolean readAtom(int depth) {
            Form atom = powers[depth];
            switch (kind()) {
                case Tokens.NUMBER:
                    if (value() < 0) {
                        return fail(BAD_NUMBER, index);
                    }
                    atom.setNumber(Left.of(value(), prime));
                    break;
                case Tokens.FOUR:
                    setKnown(atom, 4, FOUR_HEAD);
                    break;
                case Tokens.SIX:
                    setKnown(atom, 6, SIX_HEAD);
                    break;
                case Tokens.DELTA:
                    setKnown(atom, 12, DELTA_HEAD);
                    break;
                case Tokens.NAME:
                    if (findLet(value()) == NONE) {
                        return fail(NAME_UNKNOWN, index);
                    }
                    atom.copyFrom(lets[findLet(value())]);
                    break;
                case '(':
                    if (depth >= MOST_DEPTH) {
                        return fail(TOO_MANY, index);
                    }
                    goOn();
                    if (!readSum(depth + 1)) {
                        return false;
                    }
                    if (kind() != ')') {
                        return fail(UNEXPECTED, index);
                    }
                    atom.copyFrom(sums[depth + 1]);
                    break;
                default:
                    return fail(UNEXPECTED, index);
            }
            goOn();
            return true;
        }

        private void setKnown(Form form, int weight, int[] numbers) {
            form.weight = weight;
            for (int n = 0; n < HEAD; n++) {
                form.head[n] = Left.of(numbers[n], prime);
            }
        }
    }
}
