/** The boundary cases of what a BOOK is made of: the prime, left numbers, tokens, lets, powers, names. */
public final class BoundaryBookTest {
    private static final String[] KEPT = {"prime", "let", "be", "four", "six", "delta"};

    private static final Boundary b = new Boundary();

    public static void main(String[] args) {
        primes();
        primeAtFirst();
        leftNumbers();
        dividing();
        tapeOf600();
        blanks();
        words();
        numbers();
        signs();
        standingTogether();
        primeOnceAndAhead();
        sixLets();
        exponents();
        toThePowerOf0();
        numbersAsAtoms();
        namesToldAhead();
        namesByLength();
        namesThatAreKept();
        deltaAsToldByTheOthers();
        b.end();
    }

    private static int book(String text) {
        return Due.book(new HeckeSeries(), text);
    }

    private static HeckeSeries taken(String text) {
        HeckeSeries x = Due.with(text);
        x.take(0, 0);
        return x;
    }

    private static void primes() {
        b.sentence("terms", "THE PRIME P is 101 to 9973 (1009 at first).");
        for (int number = 0; number <= 9999; number++) {
            boolean may = number >= 101 && number <= 9973 && isPrime(number);
            HeckeSeries x = new HeckeSeries();
            b.same("prime " + number, Due.book(x, "prime " + number + ";"), may ? 0 : Due.fault(4, 6));
            b.same("P with " + number, x.count(0), may ? number : 1009);
        }
        for (String number : new String[] {"10007", "10009", "00101", "99999", "4294967397"}) {
            b.same("prime " + number, book("prime " + number + ";"), Due.fault(4, 6));
        }
        b.same("four digits", book("prime 0101;"), 0);
    }

    private static boolean isPrime(int number) {
        return java.math.BigInteger.valueOf(number).isProbablePrime(40);
    }

    private static void primeAtFirst() {
        b.sentence("terms", "(1009 without; 6 lets at most).");
        b.same("at first", new HeckeSeries().count(0), 1009);
        HeckeSeries x = Due.with("prime 9973;");
        b.same("told", x.count(0), 9973);
        b.same("another book", Due.book(x, "let a be 1;"), 1);
        b.same("without", x.count(0), 1009);
        HeckeSeries y = Due.with("prime 101;");
        b.same("a book of nothing", y.book(0), 0);
        b.same("without", y.count(0), 1009);
    }

    private static void leftNumbers() {
        b.sentence("terms", "LEFT is a whole number by what P leaves, 0 to P - 1;");
        int[][] want = {{0, 0}, {1, 1}, {100, 100}, {101, 0}, {102, 1}, {201, 100}, {202, 0}, {9999, 0}, {9998, 100}};
        for (int[] pair : want) {
            b.same(pair[0] + " by 101", taken("prime 101;let a be " + pair[0] + ";").coefficient(0, 0), pair[1]);
        }
        b.same("0 less 1", taken("prime 101;let a be 0-1;").coefficient(0, 0), 100);
        b.same("100 and 1", taken("prime 101;let a be 100+1;").coefficient(0, 0), 0);
        b.same("100 times 100", taken("prime 101;let a be 100*100;").coefficient(0, 0), 1);
        b.same("9972", taken("prime 9973;let a be 9972;").coefficient(0, 0), 9972);
        b.same("9973", taken("prime 9973;let a be 9973;").coefficient(0, 0), 0);
        b.same("9972 times 9972", taken("prime 9973;let a be 9972^2;").coefficient(0, 0), 1);
        b.same("9972 to the 15", taken("prime 9973;let a be 9972^15;").coefficient(0, 0), 9972);
        b.same("less 504", taken("prime 101;let a be six;").coefficient(0, 1), 1);
        b.same("delta's -24", taken("prime 101;let a be delta;").coefficient(0, 2), 77);
    }

    private static void dividing() {
        b.sentence("terms", "to divide by one (not 0) is to multiply by that which with it gives 1.");
        for (int factor = 1; factor <= 100; factor++) {
            HeckeSeries x = taken("prime 101;let a be " + factor + "*delta;");
            b.same(factor + " times delta", x.multiplies(0, 2), 77);
        }
        for (int factor : new int[] {1, 2, 4986, 4987, 9971, 9972}) {
            HeckeSeries x = taken("prime 9973;let a be " + factor + "*delta;");
            b.same(factor + " times delta", x.multiplies(0, 3), 252);
        }
    }

    private static void tapeOf600() {
        b.sentence("terms", "(THE TAPE has 600 bytes;");
        b.same("600 bytes", book("let ab be " + "1+".repeat(294) + "1;"), 1);
        HeckeSeries x = taken("let ab be " + "1+".repeat(294) + "1;");
        b.same("all of them read", x.coefficient(0, 0), 295);
        b.same("brackets to the end", book("let a be " + "(1)*".repeat(147) + "(  "), Due.fault(1, 600));
        for (String sign : new String[] {";", "+", "-", "*", "^", "(", ")", "$"}) {
            b.same("600 of " + sign, book(sign.repeat(600)), Due.fault(1, 0));
        }
        b.same("a token for each byte", book("prime 101" + ";".repeat(591)), Due.fault(1, 10));
        HeckeSeries y = new HeckeSeries();
        Due.feed(y, ("let a be 1;" + " ".repeat(589) + "let b be 2;").getBytes());
        b.same("no more than 600", y.count(2), 600);
        b.same("what came too late", y.book(600), 1);
    }

    private static void blanks() {
        b.sentence("terms", "blanks, 32, 10, part TOKENS and mean nothing else;");
        for (int sign = 0; sign < 256; sign++) {
            String blank = String.valueOf((char) sign);
            boolean parts = sign == 32 || sign == 10;
            boolean letter = sign >= 'a' && sign <= 'z';
            b.same("let" + sign + "a", book("let" + blank + "a be 1;"), parts ? 1 : Due.fault(1, letter ? 0 : 3));
        }
        b.same("between all", book("\n \n let \n a \n\n be \n ( four \n ^ 2 ) * six - ( 1 * four ) ^ 2 * six ; \n"), 1);
        b.same("between none but words", book("let a be(four^2)*six-(1*four)^2*six;"), 1);
        b.same("within a word", book("le t a be 1;"), Due.fault(1, 0));
        b.same("within a number", book("let a be 1 2;"), Due.fault(1, 11));
        b.same("alone", book(" \n"), 0);
        b.same("600 of them", book("\n ".repeat(300)), 0);
    }

    private static void words() {
        b.sentence("terms", "TOKENS: WORDS of small letters, NUMBERS of digits, each that stand together;");
        for (int sign = 0; sign < 256; sign++) {
            String text = "let " + (char) sign + " be 1;";
            boolean letter = sign >= 'a' && sign <= 'z';
            int blank = sign == 32 || sign == 10 ? 6 : 4;
            b.same("name " + sign, book(text), letter ? 1 : Due.fault(1, blank));
        }
    }

    private static void numbers() {
        b.sentence("terms", "TOKENS: WORDS of small letters, NUMBERS of digits, each that stand together;");
        for (int sign = 0; sign < 256; sign++) {
            boolean digit = sign >= '0' && sign <= '9';
            boolean letter = sign >= 'a' && sign <= 'z';
            boolean blank = sign == 32 || sign == 10;
            int want = digit ? 1 : Due.fault(letter ? 3 : 1, blank || sign == '(' ? 10 : 9);
            b.same("number " + sign, book("let a be " + (char) sign + ";"), want);
        }
        for (int digit = 0; digit <= 9; digit++) {
            b.same("digit " + digit, taken("let a be 1" + digit + ";").coefficient(0, 0), 10 + digit);
        }
    }

    private static void signs() {
        b.sentence("terms", "single ones of ; + - * ^ ( )):");
        for (int sign = 0; sign < 256; sign++) {
            boolean goesOn = sign == '+' || sign == '-' || sign == '*' || sign == '^' || sign == 32 || sign == 10
                    || sign >= '0' && sign <= '9';
            String text = "let a be 1" + (char) sign + "1;";
            int place = sign == ';' ? 11 : 10;
            int want = sign == 32 || sign == 10 ? Due.fault(1, 11) : goesOn ? 1 : Due.fault(1, place);
            b.same("between ones " + sign, book(text), want);
        }
        for (String twice : new String[] {";", "+", "*", "^"}) {
            b.same("not two together " + twice, book("let a be 1" + twice + twice + "1;"), Due.fault(1, 11));
        }
        b.same("brackets each alone", book("let a be ((1));"), 1);
        b.same("an open one", book("let a be (1;"), Due.fault(1, 11));
        b.same("a closed one", book("let a be 1);"), Due.fault(1, 10));
    }

    private static void standingTogether() {
        b.sentence("terms", "each that stand together; single ones of");
        b.same("two words", book("let a be four six;"), Due.fault(1, 14));
        b.same("one word", book("let a be foursix;"), Due.fault(1, 9));
        b.same("one word of six", book("let a be foursi;"), Due.fault(3, 9));
        b.same("a word behind a number", book("let a be 1four;"), Due.fault(1, 10));
        b.same("a number behind a word", book("let a1 be 1;"), Due.fault(1, 5));
        b.same("prime and its number", book("prime101;"), 0);
        b.same("number and be", book("let a be1;"), 1);
        b.same("be and its word", book("let a befour;"), Due.fault(1, 6));
        b.same("a let behind a sign", book("let a be 1;let b be a;"), 2);
    }

    private static void primeOnceAndAhead() {
        b.sentence("terms", "[ prime NUMBER ; ] { let NAME be SUM ; }");
        b.same("without both", book(""), 0);
        b.same("prime alone", book("prime 101;"), 0);
        b.same("let alone", book("let a be 1;"), 1);
        b.same("both", book("prime 101;let a be 1;"), 1);
        b.same("twice", book("prime 101;prime 101;"), Due.fault(1, 10));
        b.same("behind a let", book("let a be 1;prime 101;"), Due.fault(1, 11));
        b.same("without its end", book("prime 101 let a be 1;"), Due.fault(1, 10));
        b.same("a let without its end", book("let a be 1 let b be 1;"), Due.fault(1, 11));
        b.same("an end alone", book(";"), Due.fault(1, 0));
        b.same("two ends", book("prime 101;;"), Due.fault(1, 10));
    }

    private static void sixLets() {
        b.sentence("terms", "(1009 without; 6 lets at most).");
        String text = "prime 211;";
        for (int lets = 1; lets <= 6; lets++) {
            text = text + "let " + "abcdef".substring(0, lets) + " be delta;";
            b.same(lets + " lets", book(text), lets);
        }
        b.same("a seventh", book(text + " let g be delta;"), Due.fault(5, text.length() + 1));
        b.same("its first word alone", book(text + "let"), Due.fault(5, text.length()));
    }

    private static void exponents() {
        b.sentence("terms", "POWER: ATOM [ ^ NUMBER ] (0 to 15; to 0: ONE).");
        for (int exponent = 0; exponent <= 20; exponent++) {
            b.same("1 to the " + exponent, book("let a be 1^" + exponent + ";"), exponent <= 15 ? 1 : Due.fault(4, 11));
        }
        for (String exponent : new String[] {"99", "9999", "10000", "00000", "4294967297"}) {
            b.same("1 to the " + exponent, book("let a be 1^" + exponent + ";"), Due.fault(4, 11));
        }
        b.same("in four digits", book("let a be 1^0015;"), 1);
        b.same("in five digits", book("let a be 1^00015;"), Due.fault(4, 11));
        int power = 1;
        for (int exponent = 0; exponent <= 15; exponent++) {
            b.same("7 to the " + exponent, taken("let a be 7^" + exponent + ";").coefficient(0, 0), power);
            b.same("four to the " + exponent, taken("let a be four^" + exponent + ";").coefficient(0, 1),
                    240 * exponent % 1009);
            b.same("its weight", Due.with("let a be four^" + exponent + ";").let(0, 0), 4 * exponent);
            power = power * 7 % 1009;
        }
        b.same("no second one", book("let a be 1^2^2;"), Due.fault(1, 12));
        b.same("none below 0", book("let a be 1^-1;"), Due.fault(1, 11));
    }

    private static void toThePowerOf0() {
        b.sentence("terms", "(0 to 15; to 0: ONE).");
        String[] atoms = {"0", "1", "9999", "1009", "four", "six", "delta", "(delta^5)", "(0*six)", "(four-four)"};
        for (String atom : atoms) {
            HeckeSeries x = taken("let a be " + atom + "^0;");
            b.same(atom + " to 0: weight", x.weight(0), 0);
            b.same(atom + " to 0: first", x.coefficient(0, 0), 1);
            b.same(atom + " to 0: next", x.coefficient(0, 1), 0);
            b.same(atom + " to 0: last", x.coefficient(0, 180), 0);
        }
        b.same("0 to 1", taken("let a be 0^1;").coefficient(0, 0), 0);
        b.same("by it a full weight stays", Due.with("let a be delta^5*delta^0;").let(0, 0), 60);
    }

    private static void numbersAsAtoms() {
        b.sentence("terms", "ATOM: NUMBER (0 to 9999, times ONE)");
        int[][] want = {{0, 0}, {1, 1}, {1008, 1008}, {1009, 0}, {9998, 917}, {9999, 918}};
        for (int[] pair : want) {
            HeckeSeries x = taken("let a be " + pair[0] + ";");
            b.same("number " + pair[0], x.coefficient(0, 0), pair[1]);
            b.same("then 0s", x.coefficient(0, 1), 0);
            b.same("weight", x.weight(0), 0);
        }
        b.same("four digits", taken("let a be 0007;").coefficient(0, 0), 7);
        for (String number : new String[] {"10000", "00007", "99999", "4294967296", "18446744073709551617"}) {
            b.same("number " + number, book("let a be " + number + ";"), Due.fault(4, 9));
        }
        b.same("none below 0", book("let a be -1;"), Due.fault(1, 9));
    }

    private static void namesToldAhead() {
        b.sentence("terms", "NAME (of a let told ahead)");
        b.same("told ahead", book("let a be six;let b be a;"), 2);
        b.same("the first of six", book("let a be 1;let b be a;let c be b;let d be c;let e be d;let f be e*a;"), 6);
        b.same("itself", book("let a be a;"), Due.fault(3, 9));
        b.same("told behind", book("let a be b;let b be 1;"), Due.fault(3, 9));
        b.same("none", book("let a be 1+z;"), Due.fault(3, 11));
        HeckeSeries x = Due.with("let a be 1;");
        b.same("of a book ahead", Due.book(x, "let b be a;"), Due.fault(3, 9));
    }

    private static void namesByLength() {
        b.sentence("terms", "NAMES are WORDS of 1 to 6 letters but prime, let, be, four, six, delta.");
        String letters = "zyxwvutsrq";
        for (int length = 1; length <= 10; length++) {
            String name = letters.substring(0, length);
            boolean may = length <= 6;
            b.same("let " + name, book("let " + name + " be 1;"), may ? 1 : Due.fault(1, 4));
            b.same("be " + name, book("let a be " + name + ";"), Due.fault(may ? 3 : 1, 9));
        }
        b.same("alike but for the last", book("let aaaaaa be 1;let aaaaab be 2;let aaaaa be aaaaab;"), 3);
        b.same("alike but for the first", book("let aaaaaa be 1;let baaaaa be aaaaaa;let zaaaaa be baaaaa;"), 3);
        b.same("600 letters", book("a".repeat(600)), Due.fault(1, 0));
    }

    private static void namesThatAreKept() {
        b.sentence("terms", "NAMES are WORDS of 1 to 6 letters but prime, let, be, four, six, delta.");
        for (String word : KEPT) {
            b.same("let " + word, book("let " + word + " be 1;"), Due.fault(1, 4));
            b.same("let " + word + "s", book("let " + word + "s be 1;"), 1);
            String less = word.substring(0, word.length() - 1);
            b.same("let " + less, book("let " + less + " be 1;let c be " + less + ";"), 2);
            b.same("let a" + word, book("let a" + word + " be 1;let c be a" + word + ";"), 2);
        }
        for (String word : new String[] {"prime", "let", "be"}) {
            b.same("be " + word, book("let a be " + word + ";"), Due.fault(1, 9));
        }
    }

    private static void deltaAsToldByTheOthers() {
        b.sentence("terms", "DELTA (WEIGHT 12): FOUR times FOUR times FOUR less SIX times SIX, by 1728.");
        for (int prime : new int[] {101, 103, 1009, 9973}) {
            HeckeSeries x = Due.with("prime " + prime + ";let a be 1728*delta;let b be four*four*four-six*six;");
            x.take(0, 0);
            x.take(1, 1);
            b.same("alike by " + prime, x.parts(0, 1), -2);
            for (int n : new int[] {0, 1, 5, 6, 179, 180}) {
                b.same("coefficient " + n, x.coefficient(0, n), x.coefficient(1, n));
            }
        }
    }
}
