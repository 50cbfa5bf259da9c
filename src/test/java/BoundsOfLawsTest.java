/** The bounds that promises 9 to 19 and part II name, a test for each sentence, on both sides of the bound. */
public final class BoundsOfLawsTest {
    private static final Answers A = new Answers("BoundsOfLawsTest");
    private static final String[] FACTS = {"seller", "buyer", "kind", "amount", "price", "credit", "hour", "day",
        "winter", "elder", "owes", "late", "shut", "here"};

    public static void main(String[] args) {
        feedUpToFourHundred();
        feedHighestFirst();
        feedBehindTheTape();
        endOfWhatTheTapeHas();
        endKeepsTheFirst();
        lawThereAreThirty();
        lawRanks();
        treatyNotAheadOfNow();
        tapeIsEmptyThen();
        textOfFourHundredBytes();
        clausesTen();
        verbs();
        numbersOfFiveDigits();
        blanks();
        words();
        signsOfFacts();
        tests();
        sums();
        depthTen();
        depthMixed();
        countedEighty();
        countedTogether();
        leastFaultOfAPlace();
        faultAtTheEnd();
        readOnce();
        lawRows();
        houseBindsAtOnce();
        dietBindsWhenRead();
        inForceFromItsDayOn();
        inForceOfSeveral();
        verdictByRanks();
        verdictNumbers();
        verdictOnPlainDeals();
        verdictOfAFullHouse();
        sumsGoRound();
        wordsOfBothMen();
        wordsOfDebts();
        wordElder();
        wordShut();
        wordHere();
        toldOfTheLatest();
        shutTwenty();
        shutValues();
        readShutOnce();
        isShutValues();
        isShutDays();
        A.end();
    }

    private static MerchantYard twoMen() {
        MerchantYard y = new MerchantYard();
        y.man(3, false, 1000);
        y.man(8, false, 1000);
        y.bring(0, 5, 100);
        return y;
    }

    private static void good(String text, int clauses) {
        MerchantYard y = new MerchantYard();
        A.due("'" + text + "'", Answers.law(y, 0, 0, text), 0);
        A.due("clauses of '" + text + "'", y.laws(0, 1), clauses);
    }

    private static void fault(String text, int place, int why) {
        MerchantYard y = new MerchantYard();
        A.due("'" + text + "'", Answers.law(y, 0, 0, text), Answers.fault(place, why));
        A.due("no law by '" + text + "'", y.count(3), 0);
    }

    /** Whether the test is true of 7 of lot 0, at 31 coins, credit 20, at 23. */
    private static void truth(MerchantYard y, String test, boolean want) {
        A.yes(test + " is a law", Answers.law(y, 0, 0, "bar if " + test) >= 0);
        A.due(test, y.verdict(0, 1, 0, 7, 31, 20, 23), want ? 1 : 0);
    }

    // ---- the tape

    /** Promise 9: NONE, and none comes, if it would have more than 400. */
    private static void feedUpToFourHundred() {
        MerchantYard y = new MerchantYard();
        for (int k = 1; k < 20; k++) {
            y.feed(0, 0, 0, 0, 0);
        }
        A.due("380 bytes", y.count(9), 380);
        A.due("the 400th byte", y.feed(0, 0, 0, 0, 0), 400);
        A.due("of 400", y.feed(0, 0, 0, 0, 0), -1);
        A.due("none comes", y.count(9), 400);
        y.end(381);
        A.due("of 381, one too many", y.feed(0, 0, 0, 0, 0), -1);
        A.due("none comes", y.count(9), 381);
        y.end(380);
        A.due("of 380", y.feed(0, 0, 0, 0, 0), 400);
    }

    /** Promise 9: of each number the highest byte first. */
    private static void feedHighestFirst() {
        MerchantYard y = twoMen();
        A.due("bar if 12345 = 12345", y.feed(0x62617220, 0x69662031, 0x32333435, 0x203d2031, 0x32333435), 20);
        A.due("is a law", y.law(0, 0), 0);
        A.due("that is true", y.verdict(0, 1, 0, 1, 0, 0, 0), 1);
        for (int i = 0; i < 20; i++) {
            int[] n = {0x20202020, 0x20202020, 0x20202020, 0x20202020, 0x20202020};
            n[i / 4] ^= 0xff << 24 - i % 4 * 8;
            y.feed(n[0], n[1], n[2], n[3], n[4]);
            A.due("byte " + i + " is strange", y.law(0, 0), Answers.fault(i, 0));
        }
    }

    /** Promise 9: behind the TAPE, wherever end() has cut it. */
    private static void feedBehindTheTape() {
        MerchantYard y = twoMen();
        y.feed(0x62617220, 0x69662031, 0x3d787878, 0x78787878, 0x78787878);
        A.due("bar if 1=", y.end(9), 9);
        A.due("1 and blanks", y.feed(0x31202020, 0x20202020, 0x20202020, 0x20202020, 0x20202020), 29);
        A.due("is a law", y.law(0, 0), 0);
        A.due("that is true", y.verdict(0, 1, 0, 1, 0, 0, 0), 1);
    }

    /** Promise 10: NONE, and nothing happens, if it has not so many, or n is below 0. */
    private static void endOfWhatTheTapeHas() {
        MerchantYard y = new MerchantYard();
        A.due("of an empty tape 1", y.end(1), -1);
        A.due("of an empty tape 0", y.end(0), 0);
        A.due("of an empty tape -1", y.end(-1), -1);
        y.feed(0, 0, 0, 0, 0);
        A.due("of 20 bytes 21", y.end(21), -1);
        A.due("of 20 bytes -1", y.end(-1), -1);
        A.due("bytes", y.count(9), 20);
        A.due("of 20 bytes 20", y.end(20), 20);
        A.due("of 20 bytes 19", y.end(19), 19);
        A.due("of 19 bytes 20", y.end(20), -1);
        A.due("of 19 bytes 0", y.end(0), 0);
        A.due("bytes", y.count(9), 0);
    }

    /** Promise 10: the first n bytes alone. */
    private static void endKeepsTheFirst() {
        MerchantYard y = twoMen();
        Answers.write(y, "bar if 1 = 12");
        y.end(12);
        y.law(0, 0);
        A.due("1 = 1", y.verdict(0, 1, 0, 1, 0, 0, 0), 1);
        Answers.write(y, "bar if 1 = 12");
        y.end(13);
        y.law(0, 0);
        A.due("1 = 12", y.verdict(0, 1, 0, 1, 0, 0, 0), 0);
    }

    // ---- laws and their faults

    /** Promise 11, LAWS 0 to 29: NONE, and nothing happens, there are 30; faulty texts are none of them. */
    private static void lawThereAreThirty() {
        MerchantYard y = new MerchantYard();
        for (int k = 0; k < 29; k++) {
            Answers.law(y, k % 3, 5, "let if 1=1");
        }
        A.due("a fault", Answers.law(y, 0, 0, "let"), Answers.fault(3, 0));
        A.due("the 30th", Answers.law(y, 1, 7, "let if 1=1;bar if 1=1"), 29);
        A.due("its clauses", y.laws(29, 1), 2);
        Answers.write(y, "let if 1=1");
        A.due("the 31st", y.law(0, 0), -1);
        A.due("the tape stays", y.count(9), 10);
        y.end(3);
        A.due("a fault of the 31st", y.law(0, 0), -1);
        A.due("the tape stays", y.count(9), 3);
        A.due("LAWS", y.count(3), 30);
        A.due("no 31st", y.laws(30, 0), -1);
    }

    /** Promise 11: each of a RANK, 0 to 2. */
    private static void lawRanks() {
        MerchantYard y = new MerchantYard();
        Answers.write(y, "let if 1=1");
        A.due("rank -1", y.law(-1, 0), -1);
        A.due("rank 3", y.law(3, 0), -1);
        A.due("the tape stays", y.count(9), 10);
        for (int rank = 0; rank < 3; rank++) {
            A.due("rank " + rank, Answers.law(y, rank, 0, "let if 1=1"), rank);
            A.due("is told", y.laws(rank, 0), rank);
        }
    }

    /** Promise 11: one of TREATY from a DAY that is told (not ahead of NOW); for others the day is of no matter. */
    private static void treatyNotAheadOfNow() {
        MerchantYard y = new MerchantYard();
        y.clock(100);
        Answers.write(y, "let if 1=1");
        A.due("from 99", y.law(1, 99), -1);
        A.due("from 4000", y.law(1, 4000), -1);
        A.due("from -1", y.law(1, -1), -1);
        A.due("the tape stays", y.count(9), 10);
        A.due("from 100", y.law(1, 100), 0);
        A.due("from 3999", Answers.law(y, 1, 3999, "let if 1=1"), 1);
        A.due("binds from", y.laws(0, 2), 100);
        A.due("binds from", y.laws(1, 2), 3999);
        A.due("house, day 99", Answers.law(y, 0, 99, "let if 1=1"), 2);
        A.due("diet, day 4000", Answers.law(y, 2, 4000, "let if 1=1"), 3);
        A.due("house, day -1", Answers.law(y, 0, -1, "let if 1=1"), 4);
    }

    /** Promise 11: the TAPE, which is empty then. */
    private static void tapeIsEmptyThen() {
        MerchantYard y = new MerchantYard();
        Answers.law(y, 0, 0, "let if 1=1");
        A.due("behind a law", y.count(9), 0);
        A.due("it is empty", y.law(0, 0), Answers.fault(0, 0));
        Answers.law(y, 0, 0, "let if 1=");
        A.due("behind a fault", y.count(9), 0);
        A.due("it is empty", y.law(0, 0), Answers.fault(0, 0));
        A.due("and is fed from its start", y.feed(0, 0, 0, 0, 0), 20);
    }

    /** II: a text of at most 400 bytes; all of them are read. */
    private static void textOfFourHundredBytes() {
        String nine = Answers.times("let if 10001 = 20002 or 30003 =   40004;", 9);
        good(nine + "bar if 10001 = 20002 or 30003 =    40004", 10);
        fault(nine + "bar if 10001 = 20002 or 30003 =   40004;", 400, 0);
        fault(nine + "bar if 10001 = 20002 or 30003 =   40004'", 399, 0);
        fault(nine + "bar if 10001 = 20002 or 30003 =   400040", 394, 1);
        good("let if 1=1" + Answers.times(" ", 390), 1);
        fault(Answers.times(" ", 400), 400, 0);
        fault(Answers.times(" ", 399) + "x", 399, 0);
        fault("let if 1=1" + Answers.times(" ", 389) + "x", 399, 0);
        fault(Answers.times("9", 400), 0, 0);
        fault("fine " + Answers.times("9", 395), 5, 1);
        fault("let if " + Answers.times("(", 393), 17, 2);
        fault(Answers.times("x", 400), 0, 0);
        MerchantYard y = twoMen();
        A.due("the last byte counts", Answers.law(y, 0, 0, "bar if 1" + Answers.times(" ", 390) + "=1"), 0);
        A.due("as read", y.verdict(0, 1, 0, 1, 0, 0, 0), 1);
    }

    /** II: CLAUSE { ; CLAUSE }, 10 at most; an eleventh one is at its first byte. */
    private static void clausesTen() {
        String nine = Answers.times("let if 1=2;", 9);
        good("let if 1=2", 1);
        good(nine + "bar if 1=1", 10);
        fault(nine + "bar if 1=1;bar if 1=1", 110, 4);
        fault(nine + "bar if 1=1 ;  fine", 113, 4);
        fault(nine + "bar if 1=1;let", 110, 4);
        fault(nine + "bar if 1=1;", 110, 0);
        fault(nine + "bar if 1=1;  ", 112, 0);
        fault(nine + "bar if 1=1;;", 110, 0);
        fault(nine + "bar if 1=1;if", 110, 0);
        fault(nine + ";bar if 1=1", 99, 0);
        MerchantYard y = twoMen();
        A.due("ten", Answers.law(y, 0, 0, nine + "bar if 1=1"), 0);
        A.due("the tenth tells", y.verdict(0, 1, 0, 1, 0, 0, 0), 1);
        A.due("as clause", y.told(1), 9);
    }

    /** II: VERB: let, bar, or fine NUMBER; then if. */
    private static void verbs() {
        good("let if 1=1", 1);
        good("bar if 1=1", 1);
        good("fine 1 if 1=1", 1);
        fault("fine if 1=1", 5, 0);
        fault("fine price if 1=1", 5, 0);
        fault("fine (1) if 1=1", 5, 0);
        fault("fine 1 2 if 1=1", 7, 0);
        fault("let 1 if 1=1", 4, 0);
        fault("bar 1 if 1=1", 4, 0);
        fault("if 1=1", 0, 0);
        fault("let 1=1", 4, 0);
        fault("let if if 1=1", 7, 0);
        fault("let bar if 1=1", 4, 0);
        fault("price if 1=1", 0, 0);
    }

    /** II: NUMBERS of 1 to 5 digits, as far as digits go on. */
    private static void numbersOfFiveDigits() {
        good("let if 0=00000", 1);
        good("let if 99999=1", 1);
        fault("let if 100000=1", 7, 1);
        fault("let if 1=000000", 9, 1);
        good("fine 99999 if 1=1", 1);
        fault("fine 100000 if 1=1", 5, 1);
        fault("fine 12345678901234567890 if 1=1", 5, 1);
        fault("let if 1=4294967297", 9, 1);
        fault("let if 12345 6=1", 13, 0);
        good("let if 1=12345", 1);
        MerchantYard y = twoMen();
        truth(y, "99999 = 100 * 1000 - 1", true);
        truth(y, "00010 = 10", true);
        truth(y, "08 = 8 and 010 = 10", true);
        Answers.law(y, 0, 0, "fine 00012 if 1=1");
        A.due("fine 00012", y.verdict(0, 1, 0, 1, 0, 0, 0), 22);
    }

    /** II: blanks (32) stand between as one likes; no other byte does. */
    private static void blanks() {
        good("   let   if   1   =   1   ;   bar   if   1   =   1   ", 2);
        good("fine5if1=1or1=2and[1=1]", 1);
        good("let if not[1=1]and(1)=1", 1);
        fault("letif 1=1", 0, 0);
        fault("let ifkind=1", 4, 0);
        good("let if not1=2", 1);
        for (int sign : new int[] {0, 1, 9, 10, 13, 31, 33, 127, 128, 160, 255}) {
            fault("let if 1" + (char) sign + "=1", 8, 0);
            fault("let if 1=1" + (char) sign, 10, 0);
            fault((char) sign + "let if 1=1", 0, 0);
        }
    }

    /** II: WORDS (small letters); a letter more or less is another WORD, that can't stand there: at its first byte. */
    private static void words() {
        for (String word : FACTS) {
            good("let if " + word + "=1", 1);
            good("let if 1=" + word, 1);
            fault("let if 1=" + word + "s", 9, 0);
            fault("let if 1=z" + word, 9, 0);
            fault("let if 1=" + word.substring(1), 9, 0);
            fault("let if 1=" + word.substring(0, word.length() - 1), 9, 0);
            fault("let if 1=" + word.substring(0, 1).toUpperCase() + word.substring(1), 9, 0);
            fault("let if 1=" + word.substring(0, 2) + word.substring(2, 3).toUpperCase() + word.substring(3), 9, 0);
            fault("let if 1=" + word + "1", 9 + word.length(), 0);
            fault("let if 1=1" + word, 10, 0);
            fault("let if 1=" + word + " " + word, 10 + word.length(), 0);
        }
        for (String word : new String[] {"let", "bar", "fine", "if", "or", "and"}) {
            fault("let if 1=" + word, 9, 0);
            fault("let if " + word, 7, 0);
            fault(word + "s if 1=1", 0, 0);
        }
        fault("lets if 1=1", 0, 0);
        fault("le if 1=1", 0, 0);
        fault("let i 1=1", 4, 0);
        fault("let iff 1=1", 4, 0);
        fault("let if 1=1 ands 1=1", 11, 0);
        fault("let if 1=1 an 1=1", 11, 0);
        fault("let if 1=1 o 1=1", 11, 0);
        fault("let if nots 1=1", 7, 0);
        fault("let if no 1=1", 7, 0);
        fault("let if 1=" + Answers.times("kind", 90), 9, 0);
        fault("let if 1=`", 9, 0);
        fault("let if 1={", 9, 0);
        fault("let if 1=/", 9, 0);
        fault("let if 1=:", 9, 0);
    }

    /** II: SIGN one of < <= = >= >, between two SUMS. */
    private static void signsOfFacts() {
        MerchantYard y = twoMen();
        int[][] due = {{1, 1, 0, 0, 0}, {0, 1, 1, 1, 0}, {0, 0, 0, 1, 1}};
        String[] signs = {"<", "<=", "=", ">=", ">"};
        for (int k = 0; k < 3; k++) {
            for (int i = 0; i < 5; i++) {
                truth(y, (k + 1) + " " + signs[i] + " 2", due[k][i] == 1);
            }
            y = twoMen();
        }
        fault("let if 1", 8, 0);
        fault("let if 1=", 9, 0);
        fault("let if =1", 7, 0);
        fault("let if 1==1", 9, 0);
        fault("let if 1< =1", 10, 0);
        fault("let if 1> =1", 10, 0);
        fault("let if 1=<1", 9, 0);
        fault("let if 1=>1", 9, 0);
        fault("let if 1<>1", 9, 0);
        fault("let if 1><1", 9, 0);
        fault("let if 1<==1", 10, 0);
        fault("let if 1!=1", 8, 0);
        fault("let if 1=1=1", 10, 0);
        fault("let if 1=1<1", 10, 0);
        fault("let if 1 and 1=1", 9, 0);
        fault("let if [1]=1", 9, 0);
    }

    /** II: TEST: PART { or PART }; PART: FACT { and FACT }; FACT: not FACT, [ TEST ], SUM SIGN SUM. */
    private static void tests() {
        MerchantYard y = twoMen();
        truth(y, "1=2 or 1=2 or 1=1", true);
        truth(y, "1=1 and 1=1 and 1=2", false);
        truth(y, "1=1 or 1=1 and 1=2", true);
        truth(y, "1=2 and 1=1 or 1=1", true);
        truth(y, "1=2 and [1=1 or 1=1]", false);
        truth(y, "[1=1 or 1=1] and 1=2", false);
        truth(y, "not 1=2 and 1=2", false);
        truth(y, "not [1=2 and 1=2]", true);
        truth(y, "not 1=1 or 1=1", true);
        truth(y, "not not 1=1", true);
        truth(y, "not not not 1=1", false);
        truth(y, "[[1=1]]", true);
        fault("let if []", 8, 0);
        fault("let if [1=1", 11, 0);
        fault("let if 1=1]", 10, 0);
        fault("let if [1=1]]", 12, 0);
        fault("let if [1=1;]", 11, 0);
        fault("let if [1=1)", 11, 0);
        fault("let if (1=1)", 9, 0);
        fault("let if 1=1 or", 13, 0);
        fault("let if 1=1 and and 1=1", 15, 0);
        fault("let if 1=1 1=1", 11, 0);
        fault("let if 1=1[1=1]", 10, 0);
        fault("let if 1=1 not 1=1", 11, 0);
        fault("let if [1=1] + 1 = 1", 13, 0);
        fault("let if [1=1] = 1", 13, 0);
        fault("let if or 1=1", 7, 0);
    }

    /** II: SUM: TERM { (+ or -) TERM }; TERM: VALUE { * VALUE }; VALUE: NUMBER, ( SUM ), WORD. */
    private static void sums() {
        MerchantYard y = twoMen();
        truth(y, "10 - 3 - 2 = 5", true);
        truth(y, "10 - (3 - 2) = 9", true);
        truth(y, "2 + 3 * 4 = 14", true);
        truth(y, "2 * 3 + 4 = 10", true);
        truth(y, "(2 + 3) * 4 = 20", true);
        truth(y, "2 * 3 * 4 - 2 * 3 = 18", true);
        truth(y, "10 - 2 * 3 + 1 = 5", true);
        truth(y, "1 - 2 < 0", true);
        truth(y, "amount * price + credit - hour = 7 * 31 + 20 - 23", true);
        fault("let if -1=1", 7, 0);
        fault("let if +1=1", 7, 0);
        fault("let if 1=-1", 9, 0);
        fault("let if 1+=1", 9, 0);
        fault("let if 1+-1=1", 9, 0);
        fault("let if 1**1=1", 9, 0);
        fault("let if *1=1", 7, 0);
        fault("let if ()=1", 8, 0);
        fault("let if (1=1", 9, 0);
        fault("let if (1)1=1", 10, 0);
        fault("let if 1(1)=1", 8, 0);
        fault("let if (1]=1", 9, 0);
        fault("let if (1;=1", 9, 0);
        fault("let if 1/1=1", 8, 0);
        fault("let if 1=1+", 11, 0);
        fault("let if 1=(1", 11, 0);
    }

    /** II: [ and ( and not lie within one another 10 deep at most; the fault is at the sign that opens, or the word not. */
    private static void depthTen() {
        good("let if " + Answers.times("[", 10) + "1=1" + Answers.times("]", 10), 1);
        fault("let if " + Answers.times("[", 11) + "1=1" + Answers.times("]", 11), 17, 2);
        good("let if " + Answers.times("(", 10) + "1" + Answers.times(")", 10) + "=1", 1);
        fault("let if " + Answers.times("(", 11) + "1" + Answers.times(")", 11) + "=1", 17, 2);
        good("let if 1=" + Answers.times("(", 10) + "1" + Answers.times(")", 10), 1);
        fault("let if 1=" + Answers.times("(", 11) + "1" + Answers.times(")", 11), 19, 2);
        good("let if " + Answers.times("not ", 10) + "1=1", 1);
        fault("let if " + Answers.times("not ", 11) + "1=1", 47, 2);
        MerchantYard y = twoMen();
        truth(y, Answers.times("not ", 9) + "1=1", false);
        truth(y, Answers.times("not ", 10) + "1=1", true);
        truth(y, Answers.times("[", 10) + "1=2" + Answers.times("]", 10), false);
        truth(y, Answers.times("(1+", 10) + "1" + Answers.times(")", 10) + "=11", true);
    }

    /** II: of [ ( and not together; what is closed lies within nothing any more, and a not ends with its FACT. */
    private static void depthMixed() {
        good("let if not [not [not [not [not [1=1]]]]]", 1);
        fault("let if not [not [not [not [not [1=(1)]]]]]", 34, 2);
        fault("let if not [not [not [not [not [not 1=1]]]]]", 32, 2);
        fault("let if not [not [not [not [not [[1=1]]]]]]", 32, 2);
        good("let if not [not [not [not [not ((1))=1]]]]".replace("((1))", "(1)"), 1);
        fault("let if not [not [not [not [not ((1))=1]]]]", 32, 2);
        good("let if " + Answers.times("[", 9) + "(1)=(1) and not 1=1 and [1=1]" + Answers.times("]", 9), 1);
        good("let if " + Answers.times("not 1=1 and ", 15) + "1=1", 1);
        good("let if " + Answers.times("[1=1] or ", 15) + "(1)=1", 1);
        good("let if " + Answers.times("(1)+", 20) + "1=1", 1);
        good("let if " + Answers.times("not ", 9) + "[1=1] and " + Answers.times("[", 10) + "1=1" + Answers.times("]", 10), 1);
        good("let if not 1=1 and " + Answers.times("(", 10) + "1" + Answers.times(")", 10) + "=1", 1);
        good("let if " + Answers.times("[", 10) + "1=1" + Answers.times("]", 10) + ";bar if " + Answers.times("[", 10) + "1=1"
                + Answers.times("]", 10), 2);
        fault("let if 1=1;bar if " + Answers.times("[", 11) + "1=1", 28, 2);
    }

    /** II: at most 80 VALUES and FACTS made of a SIGN, together; at a VALUE's first byte, and of a FACT at its SIGN. */
    private static void countedEighty() {
        good("let if " + Answers.times("1+", 77) + "1=1", 1);
        fault("let if " + Answers.times("1+", 78) + "1=1", 165, 3);
        fault("let if " + Answers.times("1+", 78) + "1=12345", 165, 3);
        fault("let if " + Answers.times("1+", 79) + "1=1", 166, 3);
        fault("let if " + Answers.times("1+", 79) + "1 >= 1", 167, 3);
        fault("let if " + Answers.times("1+", 80) + "1=1", 167, 3);
        fault("let if " + Answers.times("1+", 80) + "kind=1", 167, 3);
        good("let if 1=" + Answers.times("1*", 77) + "1", 1);
        fault("let if 1=" + Answers.times("1*", 78) + "1", 165, 3);
        good("let if " + Answers.times("1=1 or ", 25) + "1+1+1=1", 1);
        fault("let if " + Answers.times("1=1 or ", 26) + "1=1", 7 + 26 * 7 + 2, 3);
        good("fine 12345 if " + Answers.times("1+", 77) + "1=1", 1);
        MerchantYard y = twoMen();
        truth(y, Answers.times("1+", 77) + "1=78", true);
    }

    /** II: a VALUE of ( SUM ) is one besides those within it; [ and not are none; the CLAUSES share the 80. */
    private static void countedTogether() {
        good("let if " + Answers.times("1+", 76) + "(1)=1", 1);
        fault("let if " + Answers.times("1+", 77) + "(1)=1", 165, 3);
        fault("let if " + Answers.times("1+", 79) + "(1)=1", 166, 3);
        fault("let if " + Answers.times("1+", 80) + "(1)=1", 167, 3);
        good("let if not [" + Answers.times("1+", 77) + "1=1]", 1);
        good("let if " + Answers.times("1+", 74) + "1=1;bar if 1=1", 2);
        fault("let if " + Answers.times("1+", 75) + "1=1;bar if 1=1", 7 + 150 + 4 + 7 + 2, 3);
        fault("let if " + Answers.times("1+", 76) + "1=1;bar if 1=1", 7 + 152 + 4 + 7 + 1, 3);
        fault("let if " + Answers.times("1+", 77) + "1=1;bar if 1=1", 7 + 154 + 4 + 7, 3);
        fault("let if " + Answers.times("1+", 77) + "1=1;", 7 + 154 + 4, 0);
    }

    /** II: of one place the least; else the first along the text. */
    private static void leastFaultOfAPlace() {
        String eighty = "let if " + Answers.times("1+", 80);
        fault(eighty + "x=1", 167, 0);
        fault(eighty + "if=1", 167, 0);
        fault(eighty + "]=1", 167, 0);
        fault(eighty, 167, 0);
        fault(eighty + "123456=1", 167, 1);
        String deep = "let if " + Answers.times("[", 10) + Answers.times("1+", 80);
        fault(deep + "(1)=1", 177, 2);
        fault(deep + "1=1", 177, 3);
        fault(deep + "[1)=1", 177, 0);
        fault("let if " + Answers.times("[", 9) + Answers.times("1+", 80) + "(1)=1", 176, 3);
        fault("let if " + Answers.times("1+", 79) + "1)", 7 + 159, 0);
        fault("let if " + Answers.times("1+", 79) + "1", 7 + 159, 0);
        fault("let if " + Answers.times("(", 10) + "[", 17, 0);
        fault("let if " + Answers.times("(", 10) + "not", 17, 0);
        fault("let if " + Answers.times("[", 10) + "and", 17, 0);
        fault("let if " + Answers.times("[", 10) + "123456", 17, 1);
        fault("let if 123456 foo", 7, 1);
        fault("let if foo 123456", 7, 0);
        fault("let if 1 123456", 9, 0);
        fault("let 123456 if", 4, 0);
        fault(Answers.times("let if 1=1;", 10) + "fine 123456", 110, 4);
        fault(Answers.times("let if 1=1;", 10) + "123456", 110, 0);
        fault(Answers.times("let if 1=1;", 9) + "fine 123456;let", 104, 1);
    }

    /** II: the end, behind the last byte. */
    private static void faultAtTheEnd() {
        fault("", 0, 0);
        fault(" ", 1, 0);
        fault("let", 3, 0);
        fault("let ", 4, 0);
        fault("fine", 4, 0);
        fault("fine 5", 6, 0);
        fault("let if", 6, 0);
        fault("let if not", 10, 0);
        fault("let if [", 8, 0);
        fault("let if (1", 9, 0);
        fault("let if 1+", 9, 0);
        fault("let if 1 = ", 11, 0);
        fault("let if 1=1 and  ", 16, 0);
        fault("let if 1=1;", 11, 0);
    }

    // ---- what binds

    /** Promise 12: false, and nothing happens: none such, READ already, or of another RANK. */
    private static void readOnce() {
        MerchantYard y = new MerchantYard();
        A.no("none such", y.read(0));
        Answers.law(y, 2, 0, "let if 1=1");
        Answers.law(y, 0, 0, "let if 1=1");
        Answers.law(y, 1, 9, "let if 1=1");
        Answers.law(y, 2, 0, "let if 1=1");
        y.clock(4);
        A.no("law -1", y.read(-1));
        A.no("law 4", y.read(4));
        A.no("of the house", y.read(1));
        A.no("a treaty that binds later", y.read(2));
        A.yes("the last of the diet", y.read(3));
        A.yes("the first", y.read(0));
        y.clock(5);
        A.no("read already", y.read(0));
        A.due("since", y.laws(0, 2), 4);
        A.due("the treaty as it was", y.laws(2, 2), 9);
        A.due("the house's as it was", y.laws(1, 2), 0);
    }

    /** Promise 13: NONE without it, or for another what. */
    private static void lawRows() {
        MerchantYard y = new MerchantYard();
        y.clock(6);
        Answers.law(y, 1, 8, "let if 1=1;bar if 1=1");
        Answers.law(y, 2, 8, "let if 1=1");
        int[][] due = {{-1, -1, -1, -1, -1, -1}, {-1, 1, 2, 8, 6, -1}, {-1, 2, 1, -1, 6, -1}, {-1, -1, -1, -1, -1, -1}};
        for (int k = -1; k <= 2; k++) {
            for (int what = -1; what <= 4; what++) {
                A.due("laws(" + k + ", " + what + ")", y.laws(k, what), due[k + 1][what + 1]);
            }
        }
        y.clock(3999);
        y.read(1);
        A.due("read on the last day", y.laws(1, 2), 3999);
        A.due("told on", y.laws(1, 3), 6);
    }

    /** II: a LAW of HOUSE binds from the DAY on which it is told. */
    private static void houseBindsAtOnce() {
        MerchantYard y = twoMen();
        y.clock(5);
        Answers.law(y, 0, 3999, "bar if 1=1");
        A.due("binds from", y.laws(0, 2), 5);
        A.due("on the day ahead", y.force(0, 4), -1);
        A.due("on that day", y.force(0, 5), 0);
        A.due("on the last day", y.force(0, 3999), 0);
        A.due("at once", y.verdict(0, 1, 0, 1, 1, 0, 0), 1);
    }

    /** II: one of DIET binds from the DAY on which it is READ. */
    private static void dietBindsWhenRead() {
        MerchantYard y = twoMen();
        Answers.law(y, 2, 0, "bar if 1=1");
        A.due("sent", y.verdict(0, 1, 0, 1, 1, 0, 0), 0);
        A.due("in force on no day", y.force(2, 3999), -1);
        y.clock(5);
        y.read(0);
        A.due("on the day ahead", y.force(2, 4), -1);
        A.due("on that day", y.force(2, 5), 0);
        A.due("at once", y.verdict(0, 1, 0, 1, 1, 0, 0), 1);
    }

    /** Promise 14: on a DAY, 0 to 3999, of those that bind by then. */
    private static void inForceFromItsDayOn() {
        MerchantYard y = twoMen();
        Answers.law(y, 1, 7, "bar if 1=1");
        A.due("day -1", y.force(1, -1), -1);
        A.due("day 0", y.force(1, 0), -1);
        A.due("the day ahead", y.force(1, 6), -1);
        A.due("its day", y.force(1, 7), 0);
        A.due("the last day", y.force(1, 3999), 0);
        A.due("day 4000", y.force(1, 4000), -1);
        A.due("rank -1", y.force(-1, 7), -1);
        A.due("rank 0", y.force(0, 7), -1);
        A.due("rank 2", y.force(2, 7), -1);
        A.due("rank 3", y.force(3, 7), -1);
        y.clock(6);
        A.due("verdict on the day ahead", y.verdict(0, 1, 0, 1, 1, 0, 0), 0);
        y.clock(7);
        A.due("verdict on its day", y.verdict(0, 1, 0, 1, 1, 0, 0), 1);
    }

    /** II, IN FORCE: the one with the latest such DAY, of several the last told. */
    private static void inForceOfSeveral() {
        MerchantYard y = new MerchantYard();
        Answers.law(y, 1, 5, "let if 1=1");
        Answers.law(y, 1, 5, "let if 1=1");
        Answers.law(y, 1, 4, "let if 1=1");
        Answers.law(y, 1, 6, "let if 1=1");
        Answers.law(y, 1, 5, "let if 1=1");
        int[] due = {-1, -1, -1, -1, 2, 4, 3, 3};
        for (int day = 0; day < 8; day++) {
            A.due("treaty on " + day, y.force(1, day), due[day]);
        }
        Answers.law(y, 2, 0, "let if 1=1");
        Answers.law(y, 2, 0, "let if 1=1");
        Answers.law(y, 2, 0, "let if 1=1");
        y.read(6);
        y.read(5);
        A.due("of the diet, read on one day, the last told", y.force(2, 0), 6);
        y.clock(1);
        y.read(7);
        A.due("read later", y.force(2, 1), 7);
        A.due("on the day before", y.force(2, 0), 6);
    }

    /** II, THE VERDICT: of DIET, else (if none is true, too) of TREATY, else of HOUSE; else 0. */
    private static void verdictByRanks() {
        MerchantYard y = twoMen();
        A.due("no law", y.verdict(0, 1, 0, 1, 1, 0, 0), 0);
        A.due("none told it", y.told(0), -1);
        Answers.law(y, 2, 0, "fine 1 if amount = 1; let if amount = 3; fine 2 if amount <= 3");
        Answers.law(y, 1, 0, "fine 3 if amount <= 4");
        Answers.law(y, 0, 0, "fine 4 if amount <= 5");
        y.read(0);
        int[] due = {11, 12, 0, 13, 14, 0};
        int[] law = {0, 0, 0, 1, 2, -1};
        int[] clause = {0, 2, 1, 0, 0, -1};
        for (int k = 0; k < 6; k++) {
            A.due("of " + (k + 1), y.verdict(0, 1, 0, k + 1, 1, 0, 0), due[k]);
            A.due("law", y.told(0), law[k]);
            A.due("clause", y.told(1), clause[k]);
        }
        Answers.law(y, 1, 0, "bar if amount = 99");
        A.due("an older law of the rank tells nothing any more", y.verdict(0, 1, 0, 4, 1, 0, 0), 14);
    }

    /** II: let 0, bar 1, fine n: 10 + n, n from 0 to 99999. */
    private static void verdictNumbers() {
        MerchantYard y = twoMen();
        Answers.law(y, 0, 0, "let if amount=1;bar if amount=2;fine 0 if amount=3;fine 1 if amount=4;fine 99999 if amount=5");
        int[] due = {0, 1, 10, 11, 100009, 0};
        for (int k = 0; k < 6; k++) {
            A.due("of " + (k + 1), y.verdict(0, 1, 0, k + 1, 1, 0, 0), due[k]);
            A.due("clause", y.told(1), k < 5 ? k : -1);
        }
    }

    /** Promise 15: NONE for what deal() tells 1 to 3; a PURSE is no matter. */
    private static void verdictOnPlainDeals() {
        MerchantYard y = twoMen();
        Answers.law(y, 0, 0, "fine 7 if 1=1");
        A.due("amount 0", y.verdict(0, 1, 0, 0, 0, 0, 0), -1);
        A.due("amount 1", y.verdict(0, 1, 0, 1, 0, 0, 0), 17);
        A.due("amount 100", y.verdict(0, 1, 0, 100, 0, 0, 0), 17);
        A.due("amount 101", y.verdict(0, 1, 0, 101, 0, 0, 0), -1);
        A.due("price -1", y.verdict(0, 1, 0, 1, -1, 0, 0), -1);
        A.due("price 1000000", y.verdict(0, 1, 0, 1, 1000000, 0, 0), 17);
        A.due("price 1000001", y.verdict(0, 1, 0, 1, 1000001, 0, 0), -1);
        A.due("credit -1", y.verdict(0, 1, 0, 1, 0, -1, 0), -1);
        A.due("credit 720", y.verdict(0, 1, 0, 1, 0, 720, 0), 17);
        A.due("credit 721", y.verdict(0, 1, 0, 1, 0, 721, 0), -1);
        A.due("hour -1", y.verdict(0, 1, 0, 1, 0, 0, -1), -1);
        A.due("hour 23", y.verdict(0, 1, 0, 1, 0, 0, 23), 17);
        A.due("hour 24", y.verdict(0, 1, 0, 1, 0, 0, 24), -1);
        A.due("lot -1", y.verdict(0, 1, -1, 1, 0, 0, 0), -1);
        A.due("lot 1", y.verdict(0, 1, 1, 1, 0, 0, 0), -1);
        A.due("not the seller's", y.verdict(1, 0, 0, 1, 0, 0, 0), -1);
        A.due("both one", y.verdict(0, 0, 0, 1, 0, 0, 0), -1);
        A.due("man 2", y.verdict(0, 2, 0, 1, 0, 0, 0), -1);
        A.due("man -1", y.verdict(-1, 1, 0, 1, 0, 0, 0), -1);
        y.leave(1);
        A.due("one that left", y.verdict(0, 1, 0, 1, 0, 0, 0), -1);
    }

    /** Promise 15: what deal() tells as 4 is judged. */
    private static void verdictOfAFullHouse() {
        MerchantYard y = twoMen();
        Answers.law(y, 0, 0, "fine 7 if 1=1");
        for (int k = 1; k < 200; k++) {
            y.bring(1, 0, 1);
        }
        A.due("the deal", y.deal(0, 1, 0, 1, 0, 0, 0), 4);
        A.due("no verdict of it", y.told(0), -1);
        A.due("the verdict", y.verdict(0, 1, 0, 1, 0, 0, 0), 17);
        A.due("is told", y.told(0), 0);
    }

    /** II: sums as whole numbers of 64 bits that go round. */
    private static void sumsGoRound() {
        MerchantYard y = twoMen();
        String two31 = "65536*32768";
        truth(y, two31 + " > 0 and " + two31 + "*2 > 65535*65535", true);
        truth(y, two31 + "*" + two31 + "*2 - 1 > 0", true);
        y = twoMen();
        truth(y, two31 + "*" + two31 + "*2 < 0", true);
        truth(y, two31 + "*" + two31 + "*4 = 0", true);
        truth(y, "0 - " + two31 + "*" + two31 + "*2 = " + two31 + "*" + two31 + "*2", true);
        truth(y, two31 + "*" + two31 + "*2 - 1 > 0", true);
        y = twoMen();
        truth(y, "(" + two31 + "*" + two31 + "*2 - 1) + 1 < 0", true);
        truth(y, "99999*99999*99999*99999 = 99999*99999*(99999*99999)", true);
        truth(y, "99999*99999*99999 = 99999*(10000*10000*100 - 2*10000*10 + 1)", true);
    }

    /** II: seller, buyer (the TOWN, 8 for a LOCAL one), winter (1 if one of both is a WINTERER, else 0). */
    private static void wordsOfBothMen() {
        for (int pick = 0; pick < 4; pick++) {
            MerchantYard y = new MerchantYard();
            y.man(0, (pick & 1) != 0, 1);
            y.man(8, (pick & 2) != 0, 1);
            y.man(7, true, 1);
            y.bring(0, 7, 100);
            truth(y, "winter = " + (pick == 0 ? 0 : 1), true);
            truth(y, "seller = 0 and buyer = 8 and kind = 7", true);
        }
        MerchantYard y = twoMen();
        y.clock(3999);
        truth(y, "day = 3999 and amount = 7 and price = 31 and credit = 20 and hour = 23", true);
    }

    /** II: owes, late: what the buyer owes in all, what of it is behind its DAY. */
    private static void wordsOfDebts() {
        MerchantYard y = twoMen();
        y.man(1, false, 1000);
        y.bring(1, 0, 9);
        y.deal(0, 1, 0, 1, 50, 3, 0);
        y.deal(0, 1, 0, 1, 8, 9, 0);
        y.deal(0, 2, 0, 1, 999, 1, 0);
        y.deal(1, 0, 1, 1, 777, 1, 0);
        y.clock(3);
        truth(y, "owes = 58 and late = 0", true);
        y.clock(4);
        truth(y, "owes = 58 and late = 50", true);
        y.surety(0, 2);
        A.due("the buyer gives all away", y.deal(1, 0, 1, 1, 0, 0, 0), 104);
        y.pay(1, 8);
        truth(y, "owes = 50 and late = 50", true);
    }

    /** II: elder (1 if one of both is ELDER on that DAY). */
    private static void wordElder() {
        MerchantYard y = new MerchantYard();
        y.man(0, false, 1);
        y.man(1, false, 1);
        y.man(2, false, 1);
        y.bring(0, 0, 100);
        y.order(3, 0x210, 5);
        int[] due = {1, 1, 0, 1};
        for (int term = 0; term < 4; term++) {
            y.clock(5 * term);
            truth(y, "elder = " + due[term], true);
            y.clock(5 * term + 4);
            truth(y, "elder = " + due[term], true);
        }
        y.order(1, 7, 5);
        truth(y, "elder = 0", true);
    }

    /** II: shut (1 if the port of the TOWN of one of both is SHUT on that DAY, as it binds then). */
    private static void wordShut() {
        MerchantYard y = twoMen();
        y.shut(3, 2, 4);
        y.shut(0, 0, 3999);
        y.readShut(1);
        y.clock(2);
        truth(y, "shut = 0", true);
        y.clock(3);
        y.readShut(0);
        truth(y, "shut = 1", true);
        y.clock(4);
        truth(y, "shut = 1", true);
        y.clock(5);
        truth(y, "shut = 0", true);
        y.man(0, false, 0);
        Answers.law(y, 0, 0, "bar if shut = 1");
        A.due("the buyer's port", y.verdict(0, 2, 0, 1, 0, 0, 0), 1);
        A.due("a local buyer has none", y.verdict(0, 1, 0, 1, 0, 0, 0), 0);
    }

    /** II: here (the low price here of the KIND, as NEWS tells). */
    private static void wordHere() {
        MerchantYard y = twoMen();
        truth(y, "here = 0", true);
        y.news(8, 5, 9999, 9999);
        truth(y, "here = 9999", true);
        y.news(8, 5, 40, 50);
        y.news(8, 4, 41, 51);
        y.news(3, 5, 42, 52);
        truth(y, "here = 40", true);
    }

    /** Promise 16: of the latest that came to THE VERDICT; NONE: none told it, ahead of any, or for another what. */
    private static void toldOfTheLatest() {
        MerchantYard y = twoMen();
        A.due("ahead of any, law", y.told(0), -1);
        A.due("ahead of any, clause", y.told(1), -1);
        Answers.law(y, 0, 0, "let if amount = 50");
        Answers.law(y, 0, 0, "bar if amount = 1; fine 5 if amount = 2");
        y.verdict(0, 1, 0, 2, 0, 0, 0);
        A.due("what -1", y.told(-1), -1);
        A.due("law", y.told(0), 1);
        A.due("clause", y.told(1), 1);
        A.due("what 2", y.told(2), -1);
        y.deal(0, 0, 0, 1, 0, 0, 0);
        y.deal(0, 1, 0, 0, 0, 0, 0);
        y.deal(0, 1, 0, 1, -1, 0, 0);
        y.verdict(0, 1, 0, 1, 0, 721, 0);
        A.due("1 to 3 came to none", y.told(1), 1);
        A.due("barred", y.deal(0, 1, 0, 1, 0, 0, 0), 5);
        A.due("by", y.told(1), 0);
        A.due("too poor", y.deal(0, 1, 0, 2, 1001, 0, 0), 6);
        A.due("by", y.told(1), 1);
        A.due("a deal without a word", y.deal(0, 1, 0, 3, 0, 0, 0), 100);
        A.due("none told it, law", y.told(0), -1);
        A.due("none told it, clause", y.told(1), -1);
        A.due("fined", y.deal(0, 1, 0, 2, 0, 0, 0), 101);
        A.due("by", y.told(0) * 10 + y.told(1), 11);
    }

    // ---- ports

    /** Promise 17: NONE, there are 20. */
    private static void shutTwenty() {
        MerchantYard y = new MerchantYard();
        for (int k = 0; k < 19; k++) {
            y.shut(k % 8, 5, 6);
        }
        A.due("the 20th", y.shut(4, 90, 99), 19);
        A.due("the 21st", y.shut(5, 90, 99), -1);
        A.due("ports shut", y.count(8), 20);
        A.no("no 21st", y.readShut(20));
        A.yes("the 20th is read", y.readShut(19));
        A.due("the 20th", y.isShut(4, 90, 0), 1);
        A.due("not the 21st", y.isShut(5, 90, 0), 0);
    }

    /** Promise 17: of a TOWN, DAYS 0 to 3999, the first not behind the last. */
    private static void shutValues() {
        MerchantYard y = new MerchantYard();
        y.clock(50);
        A.due("town -1", y.shut(-1, 1, 2), -1);
        A.due("town 8", y.shut(8, 1, 2), -1);
        A.due("from -1", y.shut(0, -1, 2), -1);
        A.due("till 4000", y.shut(0, 1, 4000), -1);
        A.due("from 3 till 2", y.shut(0, 3, 2), -1);
        A.due("town 0, from 0", y.shut(0, 0, 2), 0);
        A.due("town 7, till 3999", y.shut(7, 3999, 3999), 1);
        A.due("from 3 till 3", y.shut(0, 3, 3), 2);
        A.due("from 0 till 3999", y.shut(0, 0, 3999), 3);
        A.due("ports shut", y.count(8), 4);
    }

    /** Promise 18: false, and nothing happens: none such, or READ already. */
    private static void readShutOnce() {
        MerchantYard y = new MerchantYard();
        A.no("none such", y.readShut(0));
        y.shut(0, 1, 2);
        y.shut(1, 1, 2);
        y.clock(7);
        A.no("-1", y.readShut(-1));
        A.no("2", y.readShut(2));
        A.yes("1", y.readShut(1));
        A.yes("0", y.readShut(0));
        y.clock(8);
        A.no("0 again", y.readShut(0));
        A.due("since 7", y.isShut(0, 1, 7), 1);
    }

    /** Promise 19: NONE without a TOWN and DAYS. */
    private static void isShutValues() {
        MerchantYard y = new MerchantYard();
        y.shut(0, 0, 3999);
        y.shut(7, 0, 3999);
        y.readShut(0);
        y.readShut(1);
        A.due("town -1", y.isShut(-1, 0, 0), -1);
        A.due("town 0", y.isShut(0, 0, 0), 1);
        A.due("town 7", y.isShut(7, 0, 0), 1);
        A.due("town 6", y.isShut(6, 0, 0), 0);
        A.due("town 8", y.isShut(8, 0, 0), -1);
        A.due("day -1", y.isShut(0, -1, 0), -1);
        A.due("day 3999", y.isShut(0, 3999, 0), 1);
        A.due("day 4000", y.isShut(0, 4000, 0), -1);
        A.due("read by -1", y.isShut(0, 0, -1), -1);
        A.due("read by 3999", y.isShut(0, 0, 3999), 1);
        A.due("read by 4000", y.isShut(0, 0, 4000), -1);
    }

    /** Promise 19: SHUT from its first to its last DAY, by one READ by another DAY; of one alone if that is READ. */
    private static void isShutDays() {
        MerchantYard y = new MerchantYard();
        y.shut(2, 10, 20);
        y.shut(2, 30, 30);
        y.clock(5);
        A.due("told alone", y.isShut(2, 10, 3999), 0);
        y.readShut(0);
        A.due("the day ahead of the first", y.isShut(2, 9, 5), 0);
        A.due("the first", y.isShut(2, 10, 5), 1);
        A.due("the last", y.isShut(2, 20, 5), 1);
        A.due("the day behind the last", y.isShut(2, 21, 5), 0);
        A.due("read by the day ahead", y.isShut(2, 10, 4), 0);
        A.due("read by the day behind", y.isShut(2, 10, 6), 1);
        A.due("the other is told alone", y.isShut(2, 30, 3999), 0);
        y.clock(40);
        y.readShut(1);
        A.due("the other, of one day", y.isShut(2, 29, 40) * 100 + y.isShut(2, 30, 40) * 10 + y.isShut(2, 31, 40), 10);
        A.due("the other, read by 39", y.isShut(2, 30, 39), 0);
    }
}
