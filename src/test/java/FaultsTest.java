/** The grammar of a BOOK and its FAULTS, each with its place (promise 3). */
public final class FaultsTest {
    private static final Due due = new Due();

    public static void main(String[] args) {
        books();
        unexpectedTokens();
        names();
        numbers();
        oneTooMany();
        unlikeWeights();
        weightsTooGreat();
        whichComesFirst();
        whatStaysAtAFault();
        whereABookEnds();
        due.end();
    }

    private static void reads(String text, int lets) {
        due.same(text, Due.book(new HeckeSeries(), text), lets);
    }

    private static void faults(String text, int kind, int place) {
        due.same(text, Due.book(new HeckeSeries(), text), Due.fault(kind, place));
    }

    /** The fault's place is where the mark ~ stands (which is taken out). */
    private static void faults(String marked, int kind) {
        faults(marked.replace("~", ""), kind, marked.indexOf('~'));
    }

    private static void books() {
        due.part("books");
        reads("", 0);
        reads(" \n ", 0);
        reads("prime 101;", 0);
        reads("prime 9973;", 0);
        reads("prime 0101;", 0);
        reads("prime\n211 ;\nlet a be four;", 1);
        reads("let a be four;let b be a*a;let c be b-a^2;let d be 0;let e be (a);", 5);
        reads("let a be 1;let b be 2;let c be 3;let d be 4;let e be 5;let f be 6;", 6);
        reads("let abcdef be four^15;", 1);
        reads("let ab be 1;let ba be 2;let a be 3;let aa be 4;let b be 5;let bb be 6;", 6);
        reads("let a be ((((((((four))))))));", 1);
        reads("let a be ((1)*(((((((2))))))));", 1);
        reads("let a be delta^5*delta^0*six^0;", 1);
        reads("let a be delta^5*9999*(four)^0000;", 1);
        reads("let lets be four;let primes be lets;let bee be primes;", 3);
        reads("let a be 2*four;", 1);
        reads("let\na\nbe\nfour\n+\nfour\n;", 1);
    }

    private static void unexpectedTokens() {
        due.part("fault 1");
        faults("~$", 1);
        faults("~;", 1);
        faults("~four", 1);
        faults("~toolong", 1);
        faults("~abc", 1);
        faults("~12345", 1);
        faults("~\tlet a be 1;", 1);
        faults("let a be 1;\n ~\r", 1);
        faults("let a be 1;~\u00ff", 1);
        faults("~Let a be 1;", 1);
        faults("~be a be 1;", 1);
        faults("let a ~let 1;", 1);
        faults("let a ~four 1;", 1);
        faults("prime~", 1);
        faults("prime ~;", 1);
        faults("prime ~a;", 1);
        faults("prime 101~", 1);
        faults("prime 101  ~", 1);
        faults("prime 101 ~let", 1);
        faults("prime 101;~prime 103;", 1);
        faults("let a be 1;~prime 103;", 1);
        faults("let~", 1);
        faults("let ~be be 1;", 1);
        faults("let ~four be 1;", 1);
        faults("let ~six be 1;", 1);
        faults("let ~delta be 1;", 1);
        faults("let ~prime be 1;", 1);
        faults("let ~let be 1;", 1);
        faults("let ~123456 be 1;", 1);
        faults("let ~abcdefg be 1;", 1);
        faults("let a ~1;", 1);
        faults("let a~", 1);
        faults("let a be~", 1);
        faults("let a be ~;", 1);
        faults("let a be ~-four;", 1);
        faults("let a be ~let;", 1);
        faults("let a be ~be;", 1);
        faults("let a be ~prime;", 1);
        faults("let a be ~foursix;", 1);
        faults("let a be four ~six;", 1);
        faults("let a be 2~four;", 1);
        faults("let a be four~2;", 1);
        faults("let a be four~(four);", 1);
        faults("let a be four~);", 1);
        faults("let a be (four~;", 1);
        faults("let a be (four~", 1);
        faults("let a be (~);", 1);
        faults("let a be four^~;", 1);
        faults("let a be four^~a;", 1);
        faults("let a be four^~(2);", 1);
        faults("let a be four^2~^2;", 1);
        faults("let a be four*~*four;", 1);
        faults("let a be four+~+four;", 1);
        faults("let a be four~", 1);
        faults("let a be four   ~", 1);
        faults("let a be four;~;", 1);
        faults("let a be four;~a;", 1);
    }

    private static void names() {
        due.part("faults 2 and 3");
        faults("let a be 1;let ~a be 2;", 2);
        faults("let abcdef be 1;let abcdeg be 1;let ~abcdef$", 2);
        faults("let a be ~b;", 3);
        faults("let a be ~a;", 3);
        faults("let a be four*(six+~fours);", 3);
        faults("let a be 1;let b be a+~ab;", 3);
        faults("let ab be 1;let b be ~a;", 3);
    }

    private static void numbers() {
        due.part("fault 4");
        faults("prime ~97;", 4);
        faults("prime ~100;", 4);
        faults("prime ~1000", 4);
        faults("prime ~9999;", 4);
        faults("prime ~0;", 4);
        faults("prime ~00101;", 4);
        faults("prime ~10007;", 4);
        faults("prime ~9409;", 4);
        faults("prime ~106;", 4);
        faults("prime ~9998;", 4);
        faults("prime ~9969;", 4);
        faults("let a be ~10000;", 4);
        faults("let a be ~00001;", 4);
        faults("let a be four*~12345678901234567890;", 4);
        faults("let a be 1^~16;", 4);
        faults("let a be four^~16;", 4);
        faults("let a be four^~00001;", 4);
        faults("let a be four^~9999$", 4);
    }

    private static void oneTooMany() {
        due.part("fault 5");
        String six = "let a be 1;let b be 2;let c be 3;let d be 4;let e be 5;let f be 6;";
        faults(six + "~let g be 7;", 5);
        faults(six + " ~let a be 7;", 5);
        faults(six + "~g", 1);
        faults("let a be ((((((((~(1)))))))));", 5);
        faults("let a be (1)+((((((((~(", 5);
        faults("let a be ((((((((1))))))))~(", 1);
    }

    private static void unlikeWeights() {
        due.part("fault 6");
        faults("let a be four+~six;", 6);
        faults("let a be four-~1;", 6);
        faults("let a be 0+~four;", 6);
        faults("let a be four*six-~four^2*six^0+delta;", 6);
        faults("let a be four+four-~(six)*1$", 6);
        faults("let a be four+~six", 6);
        faults("let a be four+~six abc", 6);
        faults("let a be (four+~six);", 6);
        faults("let a be 1*(four^3+~delta*four);", 6);
    }

    private static void weightsTooGreat() {
        due.part("fault 7");
        faults("let a be ~delta^6;", 7);
        faults("let a be ~delta^15 $", 7);
        faults("let a be ~six^11", 7);
        faults("let a be ~(four*six)^7;", 7);
        faults("let a be delta^5*~four;", 7);
        faults("let a be delta^5*1*~four", 7);
        faults("let a be 0*delta^5*~four$", 7);
        faults("let a be six^10*~(six+six)*1;", 7);
        faults("let a be delta^5;let b be 2*(1+1)*a*~a;", 7);
        faults("let a be (~delta^6)^0;", 7);
        reads("let a be four^15;", 1);
        reads("let a be six^10;", 1);
        reads("let a be (delta^5)^1*1;", 1);
    }

    private static void whichComesFirst() {
        due.part("first met");
        faults("let a be delta^5*four^~16;", 4);
        faults("let a be delta^5*four^~$", 1);
        faults("let a be four+~delta^6;", 7);
        faults("let a be four+delta^5*~four;", 7);
        faults("let a be four+six*~$", 1);
        faults("let a be four+six^~99;", 4);
        faults("let a be four+six*~b;", 3);
        faults("let a be four+(six+~four);", 6);
        faults("let a be ~b$", 3);
    }

    /** Bytes behind the first n are no part of the book, even if a token would go on with them. */
    private static void whereABookEnds() {
        due.part("ends");
        int[][] want = {{3, 3}, {4, 4}, {5, 5}, {6, 6}, {10, 10}, {11, 11}, {14, 14}, {1, 0}, {2, 0}};
        for (int[] pair : want) {
            HeckeSeries x = new HeckeSeries();
            Due.feed(x, "let ab be 12345;".getBytes());
            due.same("the first " + pair[0], x.book(pair[0]), Due.fault(1, pair[1]));
        }
        reads("let a be " + "1+".repeat(294) + "1; ", 1);
        reads("let ab be " + "1+".repeat(294) + "1;", 1);
        faults("let a be " + "1+".repeat(295) + "1", 1, 600);
        faults(")".repeat(600), 1, 0);
    }

    private static void whatStaysAtAFault() {
        due.part("what stays");
        HeckeSeries x = Due.with("prime 211;let a be four;let b be delta;");
        x.take(1, 1);
        x.put(0, 2, false, 0);
        x.image(1, false);
        due.same("fault", Due.book(x, "prime 101;let c be six;let d be $"), Due.fault(1, 32));
        due.same("tape", x.count(2), 0);
        due.same("prime", x.count(0), 211);
        due.same("lets", x.count(1), 2);
        due.same("let 0", x.let(0, 0), 4);
        due.same("let 1", x.let(1, 0), 12);
        due.same("register", x.weight(1), 12);
        due.same("its coefficient", x.coefficient(1, 2), 211 - 24);
        due.same("row", x.row(0, 2, 0), 1);
        due.same("images", x.count(3), 1);
    }
}
