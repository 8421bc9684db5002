import java.util.Arrays;

/** Each promise by itself: ordinary inputs, edges that the document names, wrong inputs. */
public final class PromisesTest {
    private static final int LEAST = Integer.MIN_VALUE;
    private static final int MOST = Integer.MAX_VALUE;
    private static final long HUGE = Long.MIN_VALUE;
    private static final long NOT_ASKED = Long.MIN_VALUE + 1;

    private static final Due due = new Due();

    public static void main(String[] args) {
        newObject();
        feed();
        book();
        count();
        let();
        coefficient();
        weight();
        makes();
        whole();
        small();
        trace();
        traceLeft();
        share();
        take();
        plus();
        times();
        hecke();
        multiplies();
        alike();
        parts();
        table();
        polynomial();
        root();
        own();
        put();
        row();
        swap();
        image();
        due.end();
    }

    private static void newObject() {
        due.part("promise 1");
        HeckeSeries x = new HeckeSeries();
        due.same("NONE", HeckeSeries.NONE, -1);
        due.same("prime", x.count(0), 1009);
        due.same("lets", x.count(1), 0);
        due.same("tape", x.count(2), 0);
        due.same("images", x.count(3), 0);
        for (int r = 0; r < 4; r++) {
            due.same("weight", x.weight(r), 0);
            due.same("coefficient 0", x.coefficient(r, 0), 1);
            due.same("coefficient 1", x.coefficient(r, 1), 0);
            due.same("coefficient 180", x.coefficient(r, 180), 0);
        }
        for (int s = 0; s < 2; s++) {
            for (int row = 0; row < 4; row++) {
                int shelf = s;
                int place = row;
                due.call("row", () -> x.row(shelf, place, 0), Due.THROWS);
            }
        }
        due.same("shelf 0 takes left ones", x.put(0, 0, false, 0), true);
        due.same("shelf 1 takes traces", x.put(1, 0, true, 12), true);
    }

    private static void feed() {
        due.part("promise 2");
        HeckeSeries x = new HeckeSeries();
        for (int i = 1; i <= 30; i++) {
            due.same("feed", x.feed(0x6c657420, 0x61206265, 0x20312020, 0x20202020, 0x2020203b), 20 * i);
        }
        due.same("a feed too many", x.feed(0, 0, 0, 0, 0), -1);
        due.same("tape", x.count(2), 600);
        due.same("the highest byte first", x.book(20), 1);
        due.same("empty", x.count(2), 0);
        due.same("again", x.feed(-1, LEAST, MOST, 0, 1), 20);
        due.same("byte 255", x.book(20), Due.fault(1, 0));
    }

    private static void book() {
        due.part("promise 3");
        HeckeSeries x = new HeckeSeries();
        due.same("of nothing", x.book(0), 0);
        due.same("not so many", x.book(1), -1);
        Due.feed(x, "let a be four;".getBytes());
        due.same("below 0", x.book(-1), -1);
        due.same("least", x.book(LEAST), -1);
        due.same("more", x.book(21), -1);
        due.same("most", x.book(MOST), -1);
        due.same("tape stays", x.count(2), 20);
        due.same("a part of it", x.book(13), Due.fault(1, 13));
        due.same("tape empty at a fault", x.count(2), 0);
        due.same("lets stay", x.count(1), 0);
        due.same("whole", Due.book(x, "prime 211;let a be four;let b be six*a;"), 2);
        x.take(0, 1);
        x.put(0, 3, false, 0);
        x.put(1, 2, true, 12);
        x.image(0, false);
        x.swap();
        x.put(0, 3, true, 16);
        due.same("a new one", Due.book(x, "let d be delta;"), 1);
        due.same("prime", x.count(0), 1009);
        due.same("images", x.count(3), 0);
        due.same("no image", x.image(0, true), false);
        due.same("register", x.weight(0), 0);
        due.same("is ONE", x.coefficient(0, 0), 1);
        due.call("row is empty", () -> x.row(0, 3, 0), Due.THROWS);
        due.same("sorts stay", x.put(0, 3, true, 16), true);
    }

    private static void count() {
        due.part("promise 4");
        HeckeSeries x = Due.with("prime 9973;let a be 1;let b be a;");
        Due.feed(x, new byte[40]);
        x.image(1, false);
        due.same("0", x.count(0), 9973);
        due.same("1", x.count(1), 2);
        due.same("2", x.count(2), 40);
        due.same("3", x.count(3), 1);
        x.image(0, false);
        x.image(1, false);
        due.same("3", x.count(3), 2);
        for (int what : new int[] {-1, 4, LEAST, MOST}) {
            due.same("another", x.count(what), -1);
        }
    }

    private static void let() {
        due.part("promise 5");
        HeckeSeries x = Due.with("let a be delta*six;let b be four^2*six;let c be 0;let d be 1;"
                + "let e be four^15;let f be 1009*four;");
        int[][] want = {{18, 2, 1}, {14, 1, 0}, {0, 1, 1}, {0, 1, 0}, {60, 6, 0}, {4, 1, 1}};
        for (int let = 0; let < 6; let++) {
            for (int what = 0; what < 3; what++) {
                due.same("let " + let + " what " + what, x.let(let, what), want[let][what]);
            }
            for (int what : new int[] {-1, 3, LEAST, MOST}) {
                due.same("another what", x.let(let, what), -1);
            }
        }
        for (int let : new int[] {-1, 6, LEAST, MOST}) {
            due.same("none such", x.let(let, 0), -1);
        }
        due.same("a let that is not there", Due.with("let a be 1;").let(1, 0), -1);
    }

    private static void coefficient() {
        due.part("promise 6");
        HeckeSeries x = Due.with("prime 9973;let a be four;let b be six;let c be delta;"
                + "let d be 1729*four^0;let e be (four^3-six^2)*2;");
        for (int r = 0; r < 4; r++) {
            x.take(r, r);
        }
        int[][] want = {
            {1, 240, 2160, 6720, 7547, 321, 642},
            {1, 9469, 3314, 6673, 5814, 230, 803},
            {0, 1, 9949, 252, 8501, 4830, 3925},
            {1729, 0, 0, 0, 0, 0, 0}};
        for (int r = 0; r < 4; r++) {
            for (int n = 0; n < 7; n++) {
                due.same("coefficient " + n + " of " + r, x.coefficient(r, n), want[r][n]);
            }
            for (int n : new int[] {-1, 181, LEAST, MOST}) {
                due.same("no such coefficient", x.coefficient(r, n), -1);
            }
        }
        due.same("coefficient 180", x.coefficient(0, 180), Math.floorMod(240L * sigma3(180), 9973));
        for (int r : new int[] {-1, 4, LEAST, MOST}) {
            due.same("no such register", x.coefficient(r, 0), -1);
        }
        x.take(0, 4);
        due.same("1728 deltas, twice", x.coefficient(0, 1), 3456);
    }

    private static long sigma3(int n) {
        long sum = 0;
        for (long d = 1; d <= n; d++) {
            sum += n % d == 0 ? d * d * d : 0;
        }
        return sum;
    }

    private static void weight() {
        due.part("promise 7");
        HeckeSeries x = Due.with("let a be four^15;let b be six;");
        x.take(0, 0);
        x.take(3, 1);
        due.same("0", x.weight(0), 60);
        due.same("1", x.weight(1), 0);
        due.same("3", x.weight(3), 6);
        for (int r : new int[] {-1, 4, LEAST, MOST}) {
            due.same("none such", x.weight(r), -1);
        }
    }

    private static void makes() {
        due.part("promise 8");
        HeckeSeries x = new HeckeSeries();
        int[] want = {1, 0, 1, 1, 1, 1, 2, 1, 2, 2, 2, 2, 3, 2, 3, 3, 3, 3, 4, 3, 4, 4, 4, 4, 5, 4,
            5, 5, 5, 5, 6};
        for (int i = 0; i < want.length; i++) {
            due.same("all of " + 2 * i, x.makes(2 * i, false), want[i]);
            due.same("cusps of " + 2 * i, x.makes(2 * i, true), Math.max(want[i] - 1, 0));
            due.same("odd", x.makes(2 * i + 1, false), -1);
        }
        for (int weight : new int[] {-2, -1, 62, LEAST, MOST}) {
            due.same("others", x.makes(weight, false), -1);
            due.same("others", x.makes(weight, true), -1);
        }
    }

    private static void whole() {
        due.part("promise 9");
        HeckeSeries x = new HeckeSeries();
        int[][] want = {{0, -1}, {1, 0}, {2, 0}, {3, 4}, {4, 6}, {5, 0}, {7, 12}, {8, 12}, {11, 12},
            {12, 16}, {15, 24}, {16, 18}, {20, 24}, {23, 36}, {27, 16}, {48, 40}, {75, 28},
            {1999, 324}, {2000, 432}, {1998, 0}, {-3, 0}, {-4, 0}, {-1, 0}, {LEAST, 0}};
        for (int[] pair : want) {
            due.call("whole " + pair[0], () -> x.whole(pair[0]), pair[1]);
        }
        for (int d : new int[] {2001, 2002, 2003, 2004, MOST}) {
            due.call("whole " + d, () -> x.whole(d), Due.THROWS);
        }
    }

    private static void small() {
        due.part("promise 10");
        HeckeSeries x = new HeckeSeries();
        int[][] want = {{3, 1}, {4, 1}, {7, 1}, {12, 1}, {15, 2}, {16, 1}, {20, 2}, {23, 3}, {27, 1},
            {47, 5}, {48, 2}, {163, 1}, {1999, 27}, {2000, 20}, {0, 0}, {1, 0}, {2, 0}, {-3, 0},
            {-4, 0}, {2003, 0}, {2004, 0}, {LEAST, 0}, {MOST, 0}};
        for (int[] pair : want) {
            due.same("small " + pair[0], x.small(pair[0]), pair[1]);
        }
    }

    private static void trace() {
        due.part("promise 11");
        HeckeSeries x = new HeckeSeries();
        int[] tau = {1, -24, 252, -1472, 4830, -6048, -16744, 84480, -113643, -115920, 534612, -370944};
        for (int n = 1; n <= 12; n++) {
            due.same("trace 12, " + n, x.trace(12, n), tau[n - 1]);
            due.same("trace 4", x.trace(4, n), 0);
            due.same("trace 14", x.trace(14, n), 0);
        }
        long[][] want = {{18, 2, -528}, {20, 2, 456}, {22, 2, -288}, {26, 2, -48}, {24, 2, 1080},
            {24, 3, 339480}, {16, 60, -2422959920640L}, {26, 7, 39080597192L}, {60, 1, 5},
            {60, 2, -449691864}, {14, 60, 0}, {12, 60, -1791659520}, {60, 4, HUGE}, {24, 32, HUGE},
            {24, 60, HUGE}, {60, 60, HUGE}, {22, 47, HUGE}};
        for (long[] row : want) {
            due.same("trace " + row[0] + ", " + row[1], x.trace((int) row[0], (int) row[1]), row[2]);
        }
        due.same("not huge", x.trace(60, 3) != HUGE, true);
        due.same("not huge", x.trace(22, 46) != HUGE, true);
        int[][] others = {{2, 1}, {0, 1}, {3, 1}, {13, 2}, {62, 1}, {-4, 1}, {12, 0}, {12, 61}, {12, -1},
            {LEAST, 1}, {MOST, 1}, {12, LEAST}, {12, MOST}, {60, 61}};
        for (int[] pair : others) {
            due.same("others", x.trace(pair[0], pair[1]), NOT_ASKED);
        }
    }

    private static void traceLeft() {
        due.part("promise 12");
        HeckeSeries x = Due.with("prime 101;");
        int[][] want = {{12, 2, 77}, {60, 60, 61}, {60, 59, 4}, {4, 60, 0}, {24, 17, 7}, {60, 1, 5}};
        for (int[] row : want) {
            due.same("left " + row[0] + ", " + row[1], x.traceLeft(row[0], row[1]), row[2]);
        }
        int[][] others = {{2, 1}, {0, 1}, {3, 1}, {62, 1}, {-4, 1}, {12, 0}, {12, 61}, {LEAST, 1},
            {MOST, 1}, {12, LEAST}, {12, MOST}};
        for (int[] pair : others) {
            due.same("others", x.traceLeft(pair[0], pair[1]), -1);
        }
    }

    private static void share() {
        due.part("promise 13");
        HeckeSeries x = new HeckeSeries();
        int[][] want = {{12, 1, 0x3f000000}, {24, 1, 0x3f000000}, {12, 2, -1098398793},
            {24, 3, 1049468710}, {16, 60, -1117464481}, {26, 7, 1057528112}, {36, 2, 1040225597},
            {18, 4, 1058029568}, {4, 2, 0}, {14, 60, 0}, {24, 32, LEAST}, {60, 4, LEAST},
            {2, 1, LEAST}, {13, 1, LEAST}, {62, 1, LEAST}, {12, 0, LEAST}, {12, 61, LEAST},
            {LEAST, 1, LEAST}, {12, MOST, LEAST}};
        for (int[] row : want) {
            due.same("share " + row[0] + ", " + row[1], x.share(row[0], row[1]), row[2]);
        }
    }

    private static void take() {
        due.part("promise 14");
        HeckeSeries x = Due.with("let a be four;let b be delta*six;");
        due.same("take", x.take(2, 1), 18);
        due.same("weight", x.weight(2), 18);
        due.same("coefficient", x.coefficient(2, 2), Math.floorMod(-24 - 504, 1009));
        due.same("others stay", x.weight(1), 0);
        due.same("take", x.take(2, 0), 4);
        x.plus(2, 2, 1);
        due.same("twice", x.coefficient(2, 0), 2);
        due.same("the let is as it was", x.take(0, 0) + x.coefficient(0, 0), 5);
        int[][] none = {{-1, 0}, {4, 0}, {0, -1}, {0, 2}, {LEAST, 0}, {MOST, 0}, {0, LEAST}, {0, MOST}};
        for (int[] pair : none) {
            due.same("none such", x.take(pair[0], pair[1]), -1);
        }
        due.same("nothing happened", x.weight(0), 4);
    }

    private static void plus() {
        due.part("promise 15");
        HeckeSeries x = Due.with("prime 101;let a be four*six;let b be 7*four*six;let c be six;");
        x.take(0, 0);
        x.take(1, 1);
        x.take(2, 2);
        due.same("plus", x.plus(0, 1, 3), true);
        due.same("22", x.coefficient(0, 0), 22);
        due.same("weight", x.weight(0), 10);
        due.same("minus", x.plus(0, 1, -4), true);
        due.same("22 less 28", x.coefficient(0, 0), 95);
        due.same("the other stays", x.coefficient(1, 0), 7);
        due.same("least", x.plus(0, 1, LEAST), true);
        due.same("least, left", x.coefficient(0, 0), Math.floorMod(95 + 7 * (long) LEAST, 101));
        due.same("by itself", x.plus(1, 1, -1), true);
        due.same("0", x.coefficient(1, 0), 0);
        due.same("0 has a weight", x.weight(1), 10);
        due.same("unlike", x.plus(0, 2, 1), false);
        due.same("unlike, times 0", x.plus(0, 3, 0), false);
        int[][] none = {{-1, 0}, {4, 0}, {0, -1}, {0, 4}, {LEAST, 0}, {0, MOST}, {-1, -1}, {4, 4}};
        for (int[] pair : none) {
            due.same("none such", x.plus(pair[0], pair[1], 1), false);
        }
        due.same("nothing happened", x.coefficient(2, 0), 1);
    }

    private static void times() {
        due.part("promise 16");
        HeckeSeries x = Due.with("let a be delta;let b be four;let c be delta^4*four*six;let d be delta^2;");
        x.take(0, 0);
        x.take(1, 1);
        due.same("times", x.times(1, 0), 16);
        due.same("weight", x.weight(1), 16);
        due.same("216", x.coefficient(1, 2), 216);
        due.same("the other stays", x.coefficient(0, 2), 985);
        due.same("by itself", x.times(0, 0), 24);
        x.take(3, 3);
        due.same("as the square", x.alike(0, 3, 180), 1);
        due.same("coefficient 180", x.coefficient(0, 180), x.coefficient(3, 180));
        x.take(2, 2);
        due.same("58 and 16", x.times(2, 1), -1);
        due.same("nothing happens", x.weight(2), 58);
        x.take(0, 1);
        due.same("58 and 4", x.times(2, 0), -1);
        int[][] none = {{-1, 0}, {4, 0}, {0, -1}, {0, 4}, {LEAST, 0}, {0, MOST}};
        for (int[] pair : none) {
            due.same("none such", x.times(pair[0], pair[1]), -1);
        }
        HeckeSeries y = Due.with("let a be delta^4;let b be delta;");
        y.take(0, 0);
        y.take(1, 1);
        due.same("just 60", y.times(0, 1), 60);
        due.same("coefficient 5", y.coefficient(0, 5), 1);
        due.same("coefficient 6", y.coefficient(0, 6), 1009 - 120);
    }

    private static void hecke() {
        due.part("promise 17");
        HeckeSeries x = Due.with("let a be delta;let b be four;let c be four^6;");
        x.take(0, 0);
        due.same("hecke", x.hecke(0, 2), true);
        due.same("weight", x.weight(0), 12);
        int[] tau = {0, 1, -24, 252, -1472, 4830, -6048, -16744, 84480};
        for (int n = 0; n < tau.length; n++) {
            due.same("-24 times " + n, x.coefficient(0, n), Math.floorMod(-24 * tau[n], 1009));
        }
        x.take(1, 1);
        due.same("hecke 30", x.hecke(1, 30), true);
        due.same("sums of cubes", x.coefficient(1, 0), Math.floorMod(sigma3(30), 1009));
        x.take(2, 2);
        due.same("hecke 1", x.hecke(2, 1), true);
        x.take(3, 2);
        due.same("changes nothing", x.alike(2, 3, 180), 1);
        due.same("hecke of ONE's weight", Due.with("let a be 5;").hecke(0, 7), true);
        HeckeSeries one = new HeckeSeries();
        one.hecke(2, 1);
        due.same("is 0", one.coefficient(2, 0), 0);
        due.same("of weight 0", one.weight(2), 0);
        int[][] others = {{-1, 1}, {4, 1}, {0, 0}, {0, 31}, {0, -1}, {LEAST, 1}, {0, MOST}, {0, LEAST}};
        for (int[] pair : others) {
            due.same("others", x.hecke(pair[0], pair[1]), false);
        }
        due.same("nothing happened", x.coefficient(0, 1), 985);
    }

    private static void multiplies() {
        due.part("promise 18");
        HeckeSeries x = Due.with("prime 101;let a be 5*delta*four;let b be 3*six;let c be four^3;"
                + "let d be 0*delta;");
        for (int r = 0; r < 4; r++) {
            x.take(r, r);
        }
        due.same("216", x.multiplies(0, 2), 14);
        due.same("hecke 1", x.multiplies(0, 1), 1);
        due.same("33", x.multiplies(1, 2), 33);
        due.same("hecke 1 of any", x.multiplies(2, 1), 1);
        due.same("by none", x.multiplies(2, 2), -2);
        due.same("it is 0", x.multiplies(3, 2), -2);
        int[][] others = {{-1, 1}, {4, 1}, {0, 0}, {0, 31}, {3, 0}, {3, 31}, {LEAST, 1}, {0, MOST}};
        for (int[] pair : others) {
            due.same("others", x.multiplies(pair[0], pair[1]), -1);
        }
        due.same("weight 0: by 0", new HeckeSeries().multiplies(1, 5), 0);
        due.same("nothing happened", x.coefficient(0, 1), 5);
    }

    private static void alike() {
        due.part("promise 19");
        HeckeSeries x = Due.with("let a be four^3;let b be four^3+delta;let c be six^2;let d be six;");
        for (int r = 0; r < 4; r++) {
            x.take(r, r);
        }
        due.same("to 0", x.alike(0, 1, 0), 1);
        due.same("to 1", x.alike(0, 1, 1), 0);
        due.same("to 180", x.alike(0, 1, 180), 0);
        due.same("itself", x.alike(2, 2, 180), 1);
        due.same("unlike weights", x.alike(2, 3, 0), 0);
        x.plus(1, 0, -1);
        x.plus(0, 0, -1);
        x.plus(0, 1, 1);
        due.same("made alike", x.alike(0, 1, 180), 1);
        int[][] others = {{-1, 0, 0}, {0, 4, 0}, {0, 0, -1}, {0, 0, 181}, {0, 3, 181}, {0, 0, LEAST},
            {0, 0, MOST}, {LEAST, 0, 0}, {0, MOST, 0}};
        for (int[] row : others) {
            due.same("others", x.alike(row[0], row[1], row[2]), -1);
        }
    }

    private static void parts() {
        due.part("promise 20");
        HeckeSeries x = Due.with("let a be delta^5;let b be delta^4*four^3;let c be four^15;let d be six;");
        for (int r = 0; r < 4; r++) {
            x.take(r, r);
        }
        due.same("4", x.parts(0, 1), 4);
        due.same("0", x.parts(0, 2), 0);
        due.same("alike", x.parts(1, 1), -2);
        x.plus(1, 0, 1);
        x.plus(1, 0, -1);
        x.plus(0, 1, 1);
        due.same("5, the bound", x.parts(0, 1), 5);
        due.same("unlike weights", x.parts(0, 3), -1);
        int[][] none = {{-1, 0}, {4, 0}, {0, -1}, {0, 4}, {LEAST, 0}, {0, MOST}};
        for (int[] pair : none) {
            due.same("none such", x.parts(pair[0], pair[1]), -1);
        }
    }

    private static void table() {
        due.part("promise 21");
        HeckeSeries x = new HeckeSeries();
        int[][] of24 = {{0, 162}, {1, 71}};
        for (int i = 1; i <= 2; i++) {
            for (int j = 1; j <= 2; j++) {
                due.same("24, 2", x.table(24, 2, i, j), of24[i - 1][j - 1]);
                due.same("24, 1", x.table(24, 1, i, j), i == j ? 1 : 0);
            }
        }
        HeckeSeries y = Due.with("prime 101;");
        int[][] of60 = {{1, 73, 1, 21, 48}, {38, 65, 36, 79, 46}, {58, 71, 38, 61, 29},
            {6, 3, 78, 27, 10}, {66, 47, 38, 36, 11}};
        for (int i = 1; i <= 5; i++) {
            for (int j = 1; j <= 5; j++) {
                due.same("60, 30", y.table(60, 30, i, j), of60[i - 1][j - 1]);
            }
        }
        due.same("26", y.table(26, 2, 1, 1), 101 - 48);
        int[][] others = {{60, 30, 0, 1}, {60, 30, 1, 0}, {60, 30, 6, 1}, {60, 30, 1, 6}, {60, 31, 1, 1},
            {60, 0, 1, 1}, {61, 2, 1, 1}, {62, 2, 1, 1}, {-2, 2, 1, 1}, {0, 2, 1, 1}, {2, 2, 1, 1},
            {4, 2, 1, 1}, {14, 2, 1, 1}, {25, 2, 1, 1}, {26, 2, 1, 2}, {24, 2, LEAST, 1},
            {24, 2, 1, MOST}, {LEAST, 2, 1, 1}, {24, MOST, 1, 1}};
        for (int[] row : others) {
            due.same("others", y.table(row[0], row[1], row[2], row[3]), -1);
        }
    }

    private static void polynomial() {
        due.part("promise 22");
        HeckeSeries x = new HeckeSeries();
        int[] of60 = {210, 581, 517, 329, 744, 1};
        for (int i = 0; i <= 5; i++) {
            due.same("60, 2", x.polynomial(60, 2, i), of60[i]);
        }
        int[] of36 = {53, 65, 54, 1};
        HeckeSeries y = Due.with("prime 101;");
        for (int i = 0; i <= 3; i++) {
            due.same("36, 30", y.polynomial(36, 30, i), of36[i]);
        }
        for (int weight : new int[] {0, 2, 4, 6, 8, 10, 14}) {
            due.same("no cusps", x.polynomial(weight, 3, 0), 1);
            due.same("no cusps", x.polynomial(weight, 3, 1), -1);
            due.same("no cusps", x.polynomial(weight, 3, -1), -1);
        }
        int[][] others = {{60, 2, -1}, {60, 2, 6}, {60, 0, 0}, {60, 31, 0}, {61, 2, 0}, {62, 2, 0},
            {-2, 2, 0}, {24, 2, 3}, {LEAST, 2, 0}, {24, MOST, 0}, {24, 2, LEAST}, {24, 2, MOST}};
        for (int[] row : others) {
            due.same("others", x.polynomial(row[0], row[1], row[2]), -1);
        }
    }

    private static void root() {
        due.part("promise 23");
        HeckeSeries x = Due.with("prime 383;");
        int[][] want = {{12, 359}, {24, 6, 308}, {28}, {46, 2, 55, 301}, {48, 243}, {4}, {2}, {0}, {14}};
        for (int[] row : want) {
            int many = row.length - 1;
            due.same("how many of " + row[0], x.root(row[0], -1), many);
            for (int i = 0; i < many; i++) {
                due.same("root of " + row[0], x.root(row[0], i), row[i + 1]);
            }
            due.same("none such", x.root(row[0], many), -1);
            due.same("none such", x.root(row[0], -2), -1);
            due.same("none such", x.root(row[0], LEAST), -1);
            due.same("none such", x.root(row[0], MOST), -1);
        }
        for (int weight : new int[] {-2, -1, 3, 61, 62, LEAST, MOST}) {
            due.same("others", x.root(weight, -1), -1);
            due.same("others", x.root(weight, 0), -1);
        }
        HeckeSeries zero = Due.with("prime 107;");
        due.same("a root 0", zero.root(28, -1), 2);
        due.same("a root 0", zero.root(28, 0), 0);
        due.same("a root 0", zero.root(28, 1), 66);
        due.same("a root 0 and its own", zero.own(0, 28, 0), 0);
        due.same("is multiplied by 0", zero.multiplies(0, 2), 0);
        due.same("another prime", Due.book(x, "prime 101;"), 0);
        due.same("another's roots", x.root(24, -1), 0);
        due.same("another's roots", x.root(60, 0), 52);
        due.same("another's roots", x.root(60, 1), 75);
    }

    private static void own() {
        due.part("promise 24");
        HeckeSeries x = Due.with("prime 383;let a be six;");
        for (int i = 0; i < 3; i++) {
            due.same("own", x.own(1, 46, i), x.root(46, i));
            due.same("weight", x.weight(1), 46);
            due.same("cusp", x.coefficient(1, 0), 0);
            due.same("begins with 1", x.coefficient(1, 1), 1);
            due.same("coefficient 2", x.coefficient(1, 2), x.root(46, i));
            due.same("is multiplied", x.multiplies(1, 2), x.root(46, i));
            due.same("by others too", x.multiplies(1, 29), x.coefficient(1, 29));
        }
        x.take(0, 0);
        due.same("not just one", x.own(0, 48, 0), -2);
        due.same("nothing happens", x.weight(0), 6);
        int[][] none = {{0, 46, 3}, {0, 46, -1}, {0, 46, -2}, {0, 28, 0}, {0, 4, 0}, {0, 2, 0}, {0, 0, 0},
            {0, 47, 0}, {0, 62, 0}, {0, -2, 0}, {-1, 46, 0}, {4, 46, 0}, {-1, 48, 0}, {0, 48, 1},
            {LEAST, 46, 0}, {0, LEAST, 0}, {0, 46, MOST}};
        for (int[] row : none) {
            due.same("none such", x.own(row[0], row[1], row[2]), -1);
        }
        due.same("nothing happens", x.weight(0), 6);
        HeckeSeries several = Due.with("prime 677;");
        due.same("one of three", several.own(0, 52, 0), -2);
        due.same("the others", several.own(0, 52, 1), 543);
        due.same("the others", several.own(0, 52, 2), 644);
    }

    private static void put() {
        due.part("promise 25");
        HeckeSeries x = Due.with("let a be delta;let b be six;");
        x.take(0, 0);
        x.take(1, 1);
        due.same("left ones", x.put(0, 3, false, LEAST), true);
        int[] tau = {0, 1, -24, 252, -1472, 4830, -6048, -16744, 84480, -113643, -115920, 534612, -370944};
        for (int i = 0; i <= 12; i++) {
            due.same("left " + i, x.row(0, 3, i), Math.floorMod(tau[i], 1009));
        }
        due.same("traces", x.put(1, 0, true, 12), true);
        for (int i = 0; i < 12; i++) {
            due.same("trace " + i, x.row(1, 0, i), tau[i + 1]);
        }
        due.same("weight 32", x.put(1, 0, true, 32), true);
        due.same("its first", x.row(1, 0, 0), 2);
        due.same("huge", x.put(1, 0, true, 34), false);
        due.same("the row stays", x.row(1, 0, 0), 2);
        due.same("the row stays", x.row(1, 0, 11), x.trace(32, 12));
        int[][] sorts = {{0, 1, 12}, {1, 0, 12}};
        for (int[] row : sorts) {
            due.same("another sort", x.put(row[0], 0, row[1] == 1, row[2]), false);
        }
        for (int weight : new int[] {0, 2, 3, 13, 62, -4, LEAST, MOST}) {
            due.same("no such weight", x.put(1, 1, true, weight), false);
        }
        int[][] none = {{-1, 0}, {2, 0}, {0, -1}, {0, 4}, {LEAST, 0}, {0, MOST}};
        for (int[] pair : none) {
            due.same("none such", x.put(pair[0], pair[1], false, 12), false);
            due.same("none such", x.put(pair[0], pair[1], true, 12), false);
        }
        due.call("still empty", () -> x.row(1, 1, 0), Due.THROWS);
        x.plus(0, 0, 1);
        due.same("a row is no register", x.row(0, 3, 1), 1);
    }

    private static void row() {
        due.part("promise 26");
        HeckeSeries x = new HeckeSeries();
        x.put(0, 0, false, 0);
        x.put(1, 3, true, 24);
        due.call("left 0", () -> x.row(0, 0, 0), 1);
        due.call("left 12", () -> x.row(0, 0, 12), 0);
        due.call("trace 0", () -> x.row(1, 3, 0), 2);
        due.call("trace 11", () -> x.row(1, 3, 11), x.trace(24, 12));
        int[][] others = {{0, 0, 13}, {0, 0, -1}, {1, 3, 12}, {1, 3, -1}, {0, 1, 0}, {1, 0, 0}, {2, 0, 0},
            {-1, 0, 0}, {0, 4, 0}, {0, -1, 0}, {0, 0, LEAST}, {0, 0, MOST}, {LEAST, 0, 0}, {0, MOST, 0}};
        for (int[] row : others) {
            due.call("others " + Arrays.toString(row), () -> x.row(row[0], row[1], row[2]), Due.THROWS);
        }
    }

    private static void swap() {
        due.part("promise 27");
        HeckeSeries x = new HeckeSeries();
        x.put(0, 0, false, 0);
        x.put(1, 1, true, 12);
        due.same("traces now", x.swap(), 1);
        due.call("empty", () -> x.row(0, 0, 0), Due.THROWS);
        due.call("empty", () -> x.row(1, 1, 0), Due.THROWS);
        due.same("takes traces", x.put(0, 0, true, 12), true);
        due.same("no left ones", x.put(0, 0, false, 0), false);
        due.same("takes left ones", x.put(1, 1, false, 0), true);
        due.same("no traces", x.put(1, 1, true, 12), false);
        due.call("the last of left ones", () -> x.row(1, 1, 12), 0);
        due.same("left again", x.swap(), 0);
        due.call("empty", () -> x.row(0, 0, 0), Due.THROWS);
    }

    private static void image() {
        due.part("promise 28");
        HeckeSeries x = Due.with("let a be six;let b be delta;");
        for (int k : new int[] {-1, 2, LEAST, MOST}) {
            due.same("none such", x.image(k, false), false);
            due.same("none such", x.image(k, true), false);
        }
        due.same("nothing in it", x.image(0, true), false);
        x.take(0, 0);
        x.put(0, 0, false, 0);
        x.put(1, 3, true, 12);
        due.same("laid", x.image(0, false), true);
        due.same("the other has nothing", x.image(1, true), false);
        x.take(0, 1);
        x.take(3, 1);
        x.put(0, 0, false, 0);
        x.put(0, 1, false, 0);
        x.put(1, 3, true, 16);
        due.same("the other is laid", x.image(1, false), true);
        due.same("back", x.image(0, true), true);
        due.same("register 0", x.weight(0), 6);
        due.same("register 3", x.weight(3), 0);
        due.call("row", () -> x.row(0, 0, 0), 1);
        due.call("empty row", () -> x.row(0, 1, 0), Due.THROWS);
        due.call("trace", () -> x.row(1, 3, 1), -24);
        x.times(0, 0);
        x.hecke(3, 2);
        x.put(0, 0, false, 0);
        due.same("an image is not what was brought back", x.image(0, true), true);
        due.same("register 0", x.weight(0), 6);
        due.same("register 3", x.coefficient(3, 0), 1);
        due.same("the other one", x.image(1, true), true);
        due.same("register 0", x.weight(0), 12);
        due.call("trace", () -> x.row(1, 3, 1), 216);
        x.swap();
        due.same("other sorts", x.image(1, true), false);
        due.same("holds still", x.count(3), 2);
        x.swap();
        due.call("empty", () -> x.row(1, 3, 1), Due.THROWS);
        due.same("sorts as they were", x.image(1, true), true);
        due.call("trace", () -> x.row(1, 3, 1), 216);
        due.same("tape stays", x.count(2), 0);
        x.swap();
        due.same("laid with these sorts", x.image(0, false), true);
        due.same("and back", x.image(0, true), true);
        due.same("images", x.count(3), 2);
    }
}
