/** The boundary cases of the FAULTS: each kind on both sides, its place, and which of two is told. */
public final class BoundaryFaultTest {
    private static final String SIX_LETS = "let a be 1;let b be four;let c be six;let d be 4;let e be 5;let f be 6;";
    private static final String FULL = "delta^4*four*six";

    private static final Boundary b = new Boundary();

    public static void main(String[] args) {
        bytesThatBeginNoToken();
        tokensThatDoNotGoOn();
        longWords();
        theEnd();
        namesThatAreThere();
        namesThatAreNot();
        numbersThatCannotBe();
        seventhLet();
        ninthBracket();
        anotherWeight();
        allOfTheSumSoFar();
        weightsAbove60ByAPower();
        weightsAbove60ByAProduct();
        firstFromTheLeft();
        ofOneToken();
        metAsItHasEnded();
        b.end();
    }

    private static void reads(String text, int lets) {
        b.same(text, Due.book(new HeckeSeries(), text), lets);
    }

    /** The fault's place is where the mark ~ stands (which is taken out). */
    private static void faults(String marked, int kind) {
        int place = marked.indexOf('~');
        faults(marked.substring(0, place), kind, marked.substring(place + 1));
    }

    private static void faults(String ahead, int kind, String behind) {
        b.same(ahead + behind, Due.book(new HeckeSeries(), ahead + behind), Due.fault(kind, ahead.length()));
    }

    private static void bytesThatBeginNoToken() {
        b.sentence("faults", "1 the first byte that begins no TOKEN");
        for (int sign = 0; sign < 256; sign++) {
            boolean begins = sign == 32 || sign == 10 || sign >= 'a' && sign <= 'z' || sign >= '0' && sign <= '9'
                    || ";+-*^()".indexOf(sign) >= 0;
            if (!begins) {
                faults("", 1, (char) sign + "");
                faults("let a be 1;", 1, (char) sign + "");
                faults("let a be 12", 1, (char) sign + "34;");
                faults("let a be four ", 1, (char) sign + "" + (char) sign);
            }
        }
        faults("let a be ~$+$;", 1);
        faults("let a be 1;\n~\t\n", 1);
    }

    private static void tokensThatDoNotGoOn() {
        b.sentence("faults", "the TOKEN with which no BOOK goes on");
        String[] others = {"prime", "let", "be", "four", "six", "delta", "a", "7", ";", "+", "-", "*", "^", "(", ")"};
        for (String other : others) {
            goesOn("", other, "prime let");
            goesOn("prime ", other, "7");
            goesOn("prime 101", other, "7 ;");
            goesOn("prime 101;", other, "let");
            goesOn("let ", other, "a");
            goesOn("let z ", other, "be");
            goesOn("let z be ", other, "four six delta a 7 (");
            goesOn("let z be four ", other, "; + - * ^");
            goesOn("let z be four+", other, "four six delta a 7 (");
            goesOn("let z be four-", other, "four six delta a 7 (");
            goesOn("let z be four*", other, "four six delta a 7 (");
            goesOn("let z be four^", other, "7");
            goesOn("let z be four^2 ", other, "; + - *");
            goesOn("let z be (", other, "four six delta a 7 (");
            goesOn("let z be (four ", other, ") + - * ^");
            goesOn("let z be (four) ", other, "; + - * ^");
            goesOn("let z be four;", other, "let");
        }
    }

    /** Behind the text, fault 1 stands at the token, but not if it is one of those that may follow. */
    private static void goesOn(String text, String token, String may) {
        boolean follows = (" " + may + " ").contains(" " + token + " ");
        int got = Due.book(new HeckeSeries(), text + token);
        boolean glued = token.equals("7") && text.endsWith("1");
        if (!glued) {
            b.same(text + "|" + token, got == Due.fault(1, text.length()), !follows);
        }
    }

    private static void longWords() {
        b.sentence("faults", "(also a WORD of more than 6 letters;");
        reads("let sixsix be 1;", 1);
        faults("let ~sixsixs be 1;", 1);
        faults("let a be ~sixsix;", 3);
        faults("let a be ~sixsixs;", 1);
        faults("~letlets a be 1;", 1);
        faults("let a ~bebebeb 1;", 1);
        faults("let a be four ~foursix;", 1);
        faults("let a be 1;~primess 101;", 1);
        faults("let aaaaaa be 1;let b be ~aaaaaaa;", 1);
    }

    private static void theEnd() {
        b.sentence("faults", "the end: how many bytes there are);");
        faults("prime~", 1);
        faults("prime 101~", 1);
        faults("let~", 1);
        faults("let a~", 1);
        faults("let a be~", 1);
        faults("let a be four~", 1);
        faults("let a be four+~", 1);
        faults("let a be four-~", 1);
        faults("let a be four*~", 1);
        faults("let a be four^~", 1);
        faults("let a be four^2~", 1);
        faults("let a be (~", 1);
        faults("let a be (four~", 1);
        faults("let a be (four)~", 1);
        faults("let a be four ~", 1);
        faults("let a be four \n\n ~", 1);
        faults("let" + " ".repeat(597) + "~", 1);
        faults("let a be 1+" + "1+".repeat(294) + " ~", 1);
        faults(" ".repeat(597) + "let~", 1);
    }

    private static void namesThatAreThere() {
        b.sentence("faults", "2 a NAME given that is there;");
        faults("let a be 1;let ~a be 2;", 2);
        faults("let a be 1;let ~a", 2);
        faults("let a be 1;let b be 1;let c be 1;let d be 1;let e be 1;let ~a be 1;", 2);
        faults("let a be 1;let b be 1;let c be 1;let d be 1;let e be 1;let ~e be 1;", 2);
        faults("let abcdef be 1;let ~abcdef be 1;", 2);
        reads("let abcdef be 1;let abcdeg be 1;let bbcdef be 1;let abcde be 1;let bcdef be 1;", 5);
        HeckeSeries x = Due.with("let a be 1;");
        b.same("a NAME of the book ahead", Due.book(x, "let a be 2;"), 1);
        b.same("after a fault, too", Due.book(x, "let b be 2;let b be 3;"), Due.fault(2, 15));
        b.same("is there no more", Due.book(x, "let b be 2;"), 1);
    }

    private static void namesThatAreNot() {
        b.sentence("faults", "3 a NAME that isn't;");
        faults("let a be ~b;", 3);
        faults("let a be ~a;", 3);
        faults("let a be 1;let b be a+~c;", 3);
        faults("let ab be 1;let b be ~a;", 3);
        faults("let a be 1;let b be ~ab;", 3);
        faults("let a be (~x);", 3);
        faults("let a be ~x", 3);
        HeckeSeries x = new HeckeSeries();
        b.same("a fault behind a let", Due.book(x, "let b be 2;$"), Due.fault(1, 11));
        b.same("its let isn't there", Due.book(x, "let a be b;"), Due.fault(3, 9));
    }

    private static void numbersThatCannotBe() {
        b.sentence("faults", "4 a NUMBER that can't be (also one of more than 4 digits), at its first digit;");
        faults("prime ~100;", 4);
        reads("prime 101;", 0);
        faults("prime ~102;", 4);
        reads("prime 9973;", 0);
        faults("prime ~9974;", 4);
        faults("prime ~10007;", 4);
        faults("prime   ~01009;", 4);
        reads("let a be 9999;", 1);
        faults("let a be ~10000;", 4);
        faults("let a be ~09999;", 4);
        faults("let a be 1+~10000;", 4);
        faults("let a be 1*(~10000", 4);
        reads("let a be 1^15;", 1);
        faults("let a be 1^~16;", 4);
        faults("let a be 1^ ~00000;", 4);
        faults("let a be ~" + "9".repeat(591), 4);
        faults("let a be 1^~" + "0".repeat(589), 4);
    }

    private static void seventhLet() {
        b.sentence("faults", "5 one too many: the word let of a seventh, a ( within eight others, at it;");
        reads(SIX_LETS, 6);
        faults(SIX_LETS + "~let g be 7;", 5);
        faults(SIX_LETS + "\n ~let", 5);
        faults(SIX_LETS + "~let a be 7;", 5);
        faults(SIX_LETS + "~lets", 1);
        faults(SIX_LETS + "~prime 101;", 1);
        faults(SIX_LETS + "~7", 1);
        faults("prime 101;" + SIX_LETS + "~let g be 7;", 5);
    }

    private static void ninthBracket() {
        b.sentence("faults", "a ( within eight others, at it;");
        for (int deep = 0; deep <= 8; deep++) {
            reads("let a be " + "(".repeat(deep) + "four" + ")".repeat(deep) + ";", 1);
        }
        for (int deep = 9; deep <= 12; deep++) {
            faults("let a be ((((((((~(" + "(".repeat(deep - 9) + "four" + ")".repeat(deep) + ";", 5);
        }
        faults("let a be " + "(".repeat(8) + "~" + "(".repeat(583), 5);
        faults("let a be ( ( ( ( ( ( ( ( ~(", 5);
        faults("let a be (1)*((((((((1))))))))~(", 1);
        faults("let a be (1+(1*(1-(1+(1^2*(1+(1+(1+~(", 5);
        reads("let a be ((((((((1))))))))*((((((((1))))))))+((((((((1))))))));", 1);
        reads("let a be " + "(1)+".repeat(100) + "1;", 1);
        reads("let a be ((((((((four))))))))^15;let b be ((((((((a))))))));", 2);
        faults("let a be ((((((((1~(", 1);
    }

    private static void anotherWeight() {
        b.sentence("faults", "6 the first TOKEN of a PRODUCT behind + or - that has another WEIGHT than what is ahead of it");
        reads("let a be four^3+six^2-delta;", 1);
        faults("let a be four^3+~six^3;", 6);
        faults("let a be four^3-~six;", 6);
        faults("let a be four^3+six^2-~delta*four;", 6);
        faults("let a be four+~1;", 6);
        faults("let a be 1+~four;", 6);
        faults("let a be 0*four-~0;", 6);
        reads("let a be four^15-six^10;", 1);
        faults("let a be four^15-~six^9*four;", 6);
        faults("let a be four^15-~(six^9)*four;", 6);
        faults("let a be six;let b be four+ ~a;", 6);
        reads("let a be four^0+1;", 1);
        faults("let a be (four+~six)^0;", 6);
        faults("let a be four*(four+~1);", 6);
    }

    private static void allOfTheSumSoFar() {
        b.sentence("faults", "(all of the SUM so far);");
        faults("let a be four-four+~0;", 6);
        faults("let a be 0*six+~four;", 6);
        reads("let a be four-four+four;", 1);
        reads("let a be four+four*1+1*four+2^3*four^1-(four);", 1);
        faults("let a be four+four*1+1*four+2^3*four^1-~(four^2);", 6);
        reads("let a be (four+four)*(six+six)+four*six;", 1);
    }

    private static void weightsAbove60ByAPower() {
        b.sentence("faults", "7 the first TOKEN of a POWER by which, of a PRODUCT with which what is worked out so far has a"
                + " WEIGHT above 60 (a PRODUCT POWER by POWER).");
        reads("let a be delta^5;", 1);
        faults("let a be ~delta^6;", 7);
        reads("let a be six^10;", 1);
        faults("let a be ~six^11;", 7);
        reads("let a be four^15;", 1);
        reads("let a be (four^2)^7;", 1);
        faults("let a be ~(four^2)^8;", 7);
        reads("let a be (four*six)^6;", 1);
        faults("let a be ~(four*six)^7;", 7);
        reads("let a be (four^5)^3;", 1);
        faults("let a be ~(four^4)^4;", 7);
        reads("let a be (delta^5)^1;", 1);
        faults("let a be ~(delta^5)^2;", 7);
        faults("let a be ~(delta^5)^15;", 7);
        faults("let a be " + FULL + ";let b be 1* ~a^2;", 7);
        reads("let a be " + FULL + ";let b be 1*a^1;", 2);
        reads("let a be (delta^5)^0*delta^5;", 1);
        faults("let a be ~(0*four^2)^8;", 7);
    }

    private static void weightsAbove60ByAProduct() {
        b.sentence("faults", "WEIGHT above 60 (a PRODUCT POWER by POWER).");
        reads("let a be delta^4*four*four*four;", 1);
        faults("let a be delta^4*four*six*~four;", 7);
        faults("let a be delta^5*~four;", 7);
        faults("let a be delta^4*~four^4;", 7);
        reads("let a be delta^4*four^3;", 1);
        reads("let a be delta^5*1*1^15*0;", 1);
        faults("let a be delta^5*1*~six*four^0;", 7);
        faults("let a be delta*delta*delta*delta*delta*~delta;", 7);
        faults("let a be " + FULL + ";let b be a*~four;", 7);
        faults("let a be " + FULL + ";let b be four*~a;", 7);
        faults("let a be four*~(delta^5)*four;", 7);
        faults("let a be 1+1;let b be (1*(delta^5*~four));", 7);
        faults("let a be delta^5-delta^5*~four;", 7);
    }

    private static void firstFromTheLeft() {
        b.sentence("faults", "FAULTS, the first that is met reading on from the left");
        faults("let a be ~b+10000;", 3);
        faults("let a be ~10000+b;", 4);
        faults("let a be four+~six;let a be 1;", 6);
        faults("let a be ~delta^6+six$", 7);
        faults("let a be 1;let ~a be delta^6;", 2);
        faults("let a be 1~$;let a be 1;", 1);
        faults("prime ~100;let a be b;", 4);
        faults("let a be ((((((((~(b", 5);
        faults("let a be four+(six+~four);", 6);
        faults("let a be four+six*(delta^5*~four);", 7);
        faults("let a be four+six*~z;", 3);
        faults("let a be delta^5*four^~16;", 4);
        faults("let a be delta^~16;", 4);
    }

    private static void ofOneToken() {
        b.sentence("faults", "of one TOKEN the one that stands first here");
        faults("let ~12345 be 1;", 1);
        faults("let a be four ~12345;", 1);
        faults("prime 101~(", 1);
        faults("let a be ~sevenxx;", 1);
        faults("let a be ((((((((1~(", 1);
        faults(SIX_LETS.substring(0, SIX_LETS.length() - 2) + "~let", 1);
        faults("let a be four+~zz^16", 3);
        faults("let a be four+~16000*six", 4);
        faults("let a be 1+((((((((~(four", 5);
    }

    private static void metAsItHasEnded() {
        b.sentence("faults", "(6 and 7 are met as the PRODUCT, the POWER has ended, ahead of what the TOKEN behind it brings.)");
        faults("let a be four+~six$", 6);
        faults("let a be four+~six", 6);
        faults("let a be four+~six four;", 6);
        faults("let a be four+~six);", 6);
        faults("let a be four+~six+b;", 6);
        faults("let a be four+six^~^", 1);
        faults("let a be four+six*~$", 1);
        faults("let a be four+six*~12345", 4);
        faults("let a be ~delta^6$", 7);
        faults("let a be ~delta^6", 7);
        faults("let a be ~delta^6^2;", 7);
        faults("let a be ~delta^6*b;", 7);
        faults("let a be delta^5*~four$", 7);
        faults("let a be delta^5*~four", 7);
        faults("let a be delta^5*~four sevenxx", 7);
        faults("let a be delta^5*four^~$", 1);
        reads("let a be delta^5*four^0;", 1);
        faults("let a be four+~delta^6;", 7);
        faults("let a be four+delta^5*~four;", 7);
        faults("let a be four+delta^5*~four$", 7);
    }
}
