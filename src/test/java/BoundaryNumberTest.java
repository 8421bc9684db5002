/** The boundary cases of promises 8 to 13: how many forms there are, class numbers, traces, shares. */
public final class BoundaryNumberTest {
    private static final int LEAST = Boundary.LEAST;
    private static final int MOST = Boundary.MOST;
    private static final long HUGE = Long.MIN_VALUE;
    private static final long OTHERS = Long.MIN_VALUE + 1;
    /** The weights of which one cusp makes all, with four and six to the powers that go with delta. */
    private static final int[][] ALONE = {{12, 0, 0}, {16, 1, 0}, {18, 0, 1}, {20, 2, 0}, {22, 1, 1}, {26, 2, 1}};
    private static final int[] WITHOUT_CUSPS = {4, 6, 8, 10, 14};
    private static final int[] NO_TRACE_WEIGHTS = {LEAST, -12, -4, -1, 0, 1, 2, 3, 5, 11, 13, 59, 61, 62, 63, 64, MOST};
    private static final int[] NO_TRACE_NUMBERS = {LEAST, -60, -2, -1, 0, 61, 62, 120, MOST};
    /** Of each weight the last n ahead of the first that is HUGE. */
    private static final int[][] LAST_BEFORE_HUGE = {{22, 42}, {24, 31}, {26, 24}, {28, 18}, {30, 15}, {32, 13},
        {34, 11}, {36, 9}, {38, 8}, {40, 7}, {42, 7}, {44, 6}, {46, 5}, {48, 5}, {50, 5}, {52, 4}, {54, 4}, {56, 4},
        {58, 3}, {60, 3}};

    private static final Boundary b = new Boundary();

    public static void main(String[] args) {
        longOfAWeight();
        howManyMakeAll();
        noCuspsIfLongIs0();
        otherWeights();
        classNumberBounds();
        middleNumber();
        firstAtMostLast();
        notBelow0();
        nothingInCommon();
        twelfths();
        wholeOf0AndOthers();
        above2000();
        smallOfOthers();
        traceBounds();
        squaresAtMost();
        lesserOnes();
        hugeOnTheWay();
        hugeByItsParts();
        otherTraces();
        tracesLeft();
        leftHugeOrNot();
        othersLeft();
        shares();
        noShareWithoutCusps();
        otherShares();
        b.end();
    }

    private static void longOfAWeight() {
        b.sentence("terms", "LONG of k: how many it takes to make all: k by 12, downwards, and 1 more, but if k leaves 2 by 12.");
        int[][] want = {{0, 1}, {2, 0}, {4, 1}, {10, 1}, {12, 2}, {14, 1}, {16, 2}, {22, 2}, {24, 3}, {26, 2}, {28, 3},
            {34, 3}, {36, 4}, {38, 3}, {40, 4}, {46, 4}, {48, 5}, {50, 4}, {52, 5}, {58, 5}, {60, 6}};
        for (int[] pair : want) {
            b.same("LONG of " + pair[0], new HeckeSeries().makes(pair[0], false), pair[1]);
        }
    }

    private static void howManyMakeAll() {
        b.sentence("promise 8", "How many FORMS (CUSPS, if so told) make all of a WEIGHT (0 to 60, even); NONE: others.");
        HeckeSeries x = new HeckeSeries();
        int[] of12 = {1, 0, 1, 1, 1, 1};
        for (int weight = 0; weight <= 60; weight += 2) {
            int want = weight / 12 + of12[weight % 12 / 2];
            b.same("all of " + weight, x.makes(weight, false), want);
            b.same("cusps of " + weight, x.makes(weight, true), want == 0 ? 0 : want - 1);
        }
        b.same("of 0", x.makes(0, false), 1);
        b.same("of 60", x.makes(60, false), 6);
        b.same("cusps of 60", x.makes(60, true), 5);
        b.same("cusps of 10", x.makes(10, true), 0);
        b.same("cusps of 12", x.makes(12, true), 1);
        b.same("cusps of 14", x.makes(14, true), 0);
    }

    private static void noCuspsIfLongIs0() {
        b.sentence("terms", "LONG less 1 of them make all (0 if LONG is 0).");
        b.same("all of 2", new HeckeSeries().makes(2, false), 0);
        b.same("cusps of 2", new HeckeSeries().makes(2, true), 0);
        b.same("cusps of 0", new HeckeSeries().makes(0, true), 0);
    }

    private static void otherWeights() {
        b.sentence("promise 8", "make all of a WEIGHT (0 to 60, even); NONE: others.");
        for (int weight : new int[] {LEAST, -12, -2, -1, 1, 3, 11, 13, 59, 61, 62, 72, MOST}) {
            b.leavesAll("makes " + weight, Rich.Sort.RICH, x -> x.makes(weight, false), -1);
            b.leavesAll("makes " + weight, Rich.Sort.RICH, x -> x.makes(weight, true), -1);
        }
    }

    private static void whole(int d, int want) {
        b.answers("whole " + d, new HeckeSeries(), x -> x.whole(d), want);
    }

    private static void small(int d, int want) {
        b.answers("small " + d, new HeckeSeries(), x -> x.small(d), want);
    }

    private static void classNumberBounds() {
        b.sentence("terms", "CLASS NUMBERS of D (1 to 2000, leaving 0 or 3 by 4):");
        whole(1, 0);
        whole(2, 0);
        whole(3, 4);
        whole(4, 6);
        whole(5, 0);
        whole(6, 0);
        whole(7, 12);
        whole(8, 12);
        whole(1996, 144);
        whole(1997, 0);
        whole(1998, 0);
        whole(1999, 324);
        whole(2000, 432);
        small(3, 1);
        small(4, 1);
        small(1999, 27);
        small(2000, 20);
    }

    private static void middleNumber() {
        b.sentence("terms", "b from -a (not it) to a");
        whole(7, 12);
        small(7, 1);
        whole(15, 24);
        small(15, 2);
        whole(20, 24);
        small(20, 2);
        whole(35, 24);
        small(35, 2);
    }

    private static void firstAtMostLast() {
        b.sentence("terms", "a at most c");
        whole(8, 12);
        small(8, 1);
        whole(24, 24);
        small(24, 2);
        whole(40, 24);
        small(40, 2);
    }

    private static void notBelow0() {
        b.sentence("terms", "b not below 0 if a is c.");
        small(15, 2);
        small(35, 2);
        small(39, 4);
        whole(39, 48);
        small(55, 4);
        small(63, 4);
        small(23, 3);
    }

    private static void nothingInCommon() {
        b.sentence("terms", "SMALL: how many there are whose three have nothing in common but 1.");
        small(12, 1);
        small(16, 1);
        small(27, 1);
        small(28, 1);
        whole(28, 24);
        small(36, 2);
        small(48, 2);
        small(72, 2);
        small(75, 2);
        small(300, 6);
        small(1875, 10);
    }

    private static void twelfths() {
        b.sentence("terms", "WHOLE: all of them, in twelfths: 12 each, but 6 if b is 0 and a is c, 4 if a, b, c are one number.");
        whole(3, 4);
        whole(12, 16);
        whole(27, 16);
        whole(48, 40);
        whole(75, 28);
        whole(1875, 148);
        whole(4, 6);
        whole(16, 18);
        whole(36, 30);
        whole(64, 42);
        whole(100, 30);
        whole(1936, 234);
        whole(144, 90);
        whole(15, 24);
    }

    private static void wholeOf0AndOthers() {
        b.sentence("terms", "WHOLE of 0: -1; of others (also below 0) 0.");
        whole(0, -1);
        for (int d : new int[] {LEAST, LEAST + 1, -2001, -2000, -8, -5, -4, -3, -2, -1, 1, 2, 5, 6, 1997, 1998}) {
            whole(d, 0);
        }
    }

    private static void above2000() {
        b.sentence("promise 9", "NoSuchElementException: D above 2000.");
        b.leavesAll("whole 2000", Rich.Sort.RICH, x -> x.whole(2000), 432);
        for (int d : new int[] {2001, 2002, 2003, 2004, 4000, MOST - 1, MOST}) {
            b.leavesAll("whole " + d, Rich.Sort.RICH, x -> x.whole(d), Due.THROWS);
        }
    }

    private static void smallOfOthers() {
        b.sentence("promise 10", "SMALL of D; 0 if D is none such.");
        small(3, 1);
        small(2000, 20);
        for (int d : new int[] {LEAST, -2000, -4, -3, -1, 0, 1, 2, 5, 1997, 1998, 2001, 2003, 2004, MOST - 3, MOST}) {
            b.leavesAll("small " + d, Rich.Sort.RICH, x -> x.small(d), 0);
        }
    }

    private static void trace(int weight, int n, long want) {
        b.answers("trace " + weight + ", " + n, new HeckeSeries(), x -> x.trace(weight, n), want);
    }

    private static void traceBounds() {
        b.sentence("terms", "TRACE of k (4 to 60, even), n (1 to 60):");
        trace(4, 1, 0);
        trace(4, 60, 0);
        trace(60, 1, 5);
        trace(12, 1, 1);
        trace(12, 59, -5189203740L);
        trace(12, 60, -1791659520);
        for (int n = 1; n <= 60; n++) {
            trace(12, n, tau(60)[n]);
            for (int weight : WITHOUT_CUSPS) {
                trace(weight, n, 0);
            }
        }
        for (int weight = 4; weight <= 60; weight += 2) {
            trace(weight, 1, new HeckeSeries().makes(weight, true));
        }
    }

    /** Delta's coefficients by its product: x times all (1 - x to the n) to the 24. */
    private static long[] tau(int last) {
        long[] series = new long[last + 1];
        series[1] = 1;
        for (int n = 1; n <= last; n++) {
            for (int times = 0; times < 24; times++) {
                for (int m = last; m >= n; m--) {
                    series[m] -= series[m - n];
                }
            }
        }
        return series;
    }

    private static void squaresAtMost() {
        b.sentence("terms", "all t from - to + with t t at most 4 n together, by 24;");
        trace(12, 4, -1472);
        trace(12, 9, -113643);
        trace(12, 16, 987136);
        trace(12, 25, -25499225);
        trace(12, 36, 167282496);
        trace(12, 49, -1696965207);
        trace(4, 16, 0);
        trace(14, 49, 0);
    }

    private static void lesserOnes() {
        b.sentence("terms", "less, all d that go into n together, the lesser one of d, n by d, to the (k - 1), by 2.");
        trace(16, 1, 1);
        trace(16, 2, 216);
        trace(16, 4, 13888);
        trace(16, 6, -723168);
        trace(10, 60, 0);
        trace(10, 59, 0);
    }

    private static void isHuge(int weight, int n, boolean want) {
        b.same("trace " + weight + ", " + n + " is HUGE", new HeckeSeries().trace(weight, n) == HUGE, want);
    }

    private static void hugeOnTheWay() {
        b.sentence("terms", "HUGE: something on the way above 2 to the 62 or below less it");
        for (int[] pair : LAST_BEFORE_HUGE) {
            for (int n = 1; n <= pair[1]; n++) {
                isHuge(pair[0], n, false);
            }
            trace(pair[0], pair[1] + 1, HUGE);
            trace(pair[0], 60, HUGE);
        }
        for (int weight = 4; weight <= 20; weight += 2) {
            for (int n = 1; n <= 60; n++) {
                isHuge(weight, n, false);
            }
        }
        for (int n = 43; n <= 60; n++) {
            isHuge(22, n, n != 45 && n != 46);
        }
        trace(24, 30, -155926924188644160L);
    }

    /** Whole traces that fit well: only what stands on the way is too great. */
    private static void hugeByItsParts() {
        b.sentence("terms", "each product, each sum; all ahead of dividing by 24");
        trace(46, 6, HUGE);
        trace(22, 44, HUGE);
        trace(24, 33, HUGE);
        trace(22, 43, HUGE);
        trace(30, 16, HUGE);
        trace(24, 32, HUGE);
        trace(22, 49, HUGE);
        trace(26, 26, HUGE);
        b.same("a sum just below it", new HeckeSeries().trace(22, 45) != HUGE, true);
    }

    private static void otherTraces() {
        b.sentence("promise 11", "TRACE; Long.MIN_VALUE: HUGE; Long.MIN_VALUE and 1: others.");
        for (int weight : NO_TRACE_WEIGHTS) {
            b.leavesAll("trace " + weight, Rich.Sort.RICH, x -> x.trace(weight, 1), OTHERS);
            trace(weight, 60, OTHERS);
            trace(weight, 61, OTHERS);
        }
        for (int n : NO_TRACE_NUMBERS) {
            b.leavesAll("trace of n " + n, Rich.Sort.RICH, x -> x.trace(12, n), OTHERS);
            trace(4, n, OTHERS);
            trace(60, n, OTHERS);
        }
    }

    private static void tracesLeft() {
        b.sentence("promise 12", "TRACE by what P leaves (HUGE or not);");
        for (int prime : new int[] {101, 1009, 9973}) {
            HeckeSeries x = Due.with("prime " + prime + ";");
            for (int n = 1; n <= 60; n++) {
                b.same("left 12, " + n, x.traceLeft(12, n), Math.floorMod(tau(60)[n], (long) prime));
            }
            b.same("left 4, 1", x.traceLeft(4, 1), 0);
            b.same("left 60, 1", x.traceLeft(60, 1), 5);
            b.same("left 24, 30", x.traceLeft(24, 30), Math.floorMod(-155926924188644160L, (long) prime));
        }
    }

    /** One cusp makes all: the trace is its coefficient, which comes from products. */
    private static void leftHugeOrNot() {
        b.sentence("promise 12", "(HUGE or not)");
        for (int prime : new int[] {101, 9973}) {
            for (int[] alone : ALONE) {
                HeckeSeries x = Due.with("prime " + prime + ";let a be delta*four^" + alone[1] + "*six^" + alone[2] + ";");
                x.take(0, 0);
                for (int n = 1; n <= 60; n++) {
                    b.same("left " + alone[0] + ", " + n, x.traceLeft(alone[0], n), x.coefficient(0, n));
                }
            }
        }
        b.same("HUGE", new HeckeSeries().trace(26, 60), HUGE);
    }

    private static void othersLeft() {
        b.sentence("promise 12", "TRACE by what P leaves (HUGE or not); NONE: others.");
        for (int weight : NO_TRACE_WEIGHTS) {
            b.leavesAll("left " + weight, Rich.Sort.RICH, x -> x.traceLeft(weight, 1), -1);
        }
        for (int n : NO_TRACE_NUMBERS) {
            b.leavesAll("left of n " + n, Rich.Sort.RICH, x -> x.traceLeft(60, n), -1);
        }
        b.same("the last", new HeckeSeries().traceLeft(60, 60) >= 0, true);
        b.same("the first", new HeckeSeries().traceLeft(4, 1), 0);
    }

    private static void shares() {
        b.sentence("promise 13", "SHARE's bits (as Float.floatToIntBits tells);");
        HeckeSeries x = new HeckeSeries();
        for (int weight = 16; weight <= 60; weight += 2) {
            b.same("share " + weight + ", 1", x.share(weight, 1), Float.floatToIntBits(.5f));
        }
        b.same("share 12, 4", x.share(12, 4), Float.floatToIntBits(-1472f / 4096f));
        b.same("share 16, 4", x.share(16, 4), Float.floatToIntBits(13888f / (2f * 32768f)));
        b.same("share 24, 4", x.share(24, 4), Float.floatToIntBits(x.trace(24, 4) / (4f * 8388608f)));
        b.same("below 0 has its sign", x.share(12, 2) < 0, true);
        b.same("above 0 has none", x.share(12, 3) > 0, true);
        b.same("the last weight", x.share(60, 3), byFloats(x.trace(60, 3), 60, 3, 5));
        b.same("the last n", x.share(12, 60), byFloats(x.trace(12, 60), 12, 60, 1));
        b.same("the greatest trace", x.share(24, 30), byFloats(x.trace(24, 30), 24, 30, 2));
    }

    private static int byFloats(long trace, int weight, int n, int cusps) {
        float r = 1f;
        for (int i = 0; i < (weight - 2) / 2; i++) {
            r *= n;
        }
        float s = n;
        for (int i = 0; i < 20; i++) {
            s = (s + n / s) / 2f;
        }
        return Float.floatToIntBits(trace / (2f * (r * s) * cusps));
    }

    private static void noShareWithoutCusps() {
        b.sentence("terms", "0 if no CUSPS are.");
        HeckeSeries x = new HeckeSeries();
        for (int weight : WITHOUT_CUSPS) {
            for (int n = 1; n <= 60; n++) {
                b.same("share " + weight + ", " + n, x.share(weight, n), 0);
            }
        }
    }

    private static void otherShares() {
        b.sentence("promise 13", "Integer.MIN_VALUE: others, TRACE is HUGE.");
        for (int weight : NO_TRACE_WEIGHTS) {
            b.leavesAll("share " + weight, Rich.Sort.RICH, x -> x.share(weight, 1), LEAST);
        }
        for (int n : NO_TRACE_NUMBERS) {
            b.leavesAll("share of n " + n, Rich.Sort.RICH, x -> x.share(12, n), LEAST);
            b.same("share without cusps", new HeckeSeries().share(4, n), LEAST);
        }
        HeckeSeries x = new HeckeSeries();
        for (int[] pair : LAST_BEFORE_HUGE) {
            b.same("before HUGE " + pair[0], x.share(pair[0], pair[1]) != LEAST, true);
            b.same("HUGE " + pair[0], x.share(pair[0], pair[1] + 1), LEAST);
        }
    }
}
