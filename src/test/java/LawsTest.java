/** Promises 9 to 19: the tape, laws, their faults and words, the verdict, ports shut. */
public final class LawsTest {
    private static final Answers A = new Answers("LawsTest");

    public static void main(String[] args) {
        tape();
        faults();
        faultsOfLimits();
        lawsLeaveNothing();
        lawNumbers();
        readAndForce();
        ranks();
        words();
        signs();
        verdictAnswers();
        told();
        shut();
        isShut();
        A.end();
    }

    private static void tape() {
        MerchantYard y = new MerchantYard();
        for (int k = 1; k <= 20; k++) {
            A.due("feed " + k, y.feed(0, 0, 0, 0, 0), 20 * k);
        }
        A.due("a 21st", y.feed(0, 0, 0, 0, 0), -1);
        A.due("bytes", y.count(9), 400);
        A.due("end(401)", y.end(401), -1);
        A.due("end(-1)", y.end(-1), -1);
        A.due("all that it has", y.end(400), 400);
        A.due("bytes", y.count(9), 400);
        A.due("end(381)", y.end(381), 381);
        A.due("401 bytes", y.feed(0, 0, 0, 0, 0), -1);
        A.due("end(382)", y.end(382), -1);
        A.due("end(380)", y.end(380), 380);
        A.due("400 bytes", y.feed(0, 0, 0, 0, 0), 400);
        A.due("end(0)", y.end(0), 0);
        A.due("end(1)", y.end(1), -1);
        // "let " "if 1" "=1" with the highest byte first
        A.due("feed", y.feed(0x6c657420, 0x69662031, 0x3d310000, 0, 0), 20);
        A.due("end(10)", y.end(10), 10);
        A.due("the tape's law", y.law(0, 0), 0);
        A.due("the tape is empty", y.count(9), 0);
    }

    private static void fault(String text, int place, int why) {
        MerchantYard y = new MerchantYard();
        A.due("'" + text + "'", Answers.law(y, 0, 0, text), Answers.fault(place, why));
        A.due("no law of '" + text + "'", y.count(3), 0);
        A.due("the tape behind '" + text + "'", y.count(9), 0);
    }

    private static void fine(String text) {
        MerchantYard y = new MerchantYard();
        A.due("'" + text + "'", Answers.law(y, 0, 0, text), 0);
    }

    private static void faults() {
        fault("", 0, 0);
        fault("   ", 3, 0);
        fault("let", 3, 0);
        fault("let   ", 6, 0);
        fault("lets if 1=1", 0, 0);
        fault("let if", 6, 0);
        fault("letz if 1=1", 0, 0);
        fault("zlet if 1=1", 0, 0);
        fault("het if 1=1", 0, 0);
        fault("let of 1=1", 4, 0);
        fault("let 5 if 1=1", 4, 0);
        fault("fine if 1=1", 5, 0);
        fault("fine 123456 if 1=1", 5, 1);
        fault("let 123456 if 1=1", 4, 0);
        fault("Let if 1=1", 0, 0);
        fault("let if kinD = 1", 7, 0);
        fault("let if kind == 1", 13, 0);
        fault("let if kind < = 1", 14, 0);
        fault("let if kind =< 1", 13, 0);
        fault("let if kind <> 1", 13, 0);
        fault("let if kind", 11, 0);
        fault("let if (kind = 1)", 13, 0);
        fault("let if [kind] = 1", 12, 0);
        fault("let if [kind = 1", 16, 0);
        fault("let if (kind + 1 = 1", 17, 0);
        fault("let if kind + = 1", 14, 0);
        fault("let if - 1 = 1", 7, 0);
        fault("let if 1 = - 1", 11, 0);
        fault("let if 1 = 1]", 12, 0);
        fault("let if 1 = 1)", 12, 0);
        fault("let if 1 = 1 and", 16, 0);
        fault("let if 1 = 1 or or 1 = 1", 16, 0);
        fault("let if 1 = 1 not 1 = 1", 13, 0);
        fault("let if not", 10, 0);
        fault("let if 1 + not 1 = 1", 11, 0);
        fault("let if 1 = 1 = 1", 13, 0);
        fault("let if 1 = 1;", 13, 0);
        fault("let if 1 = 1; ;", 14, 0);
        fault(";let if 1 = 1", 0, 0);
        fault("let if let = 1", 7, 0);
        fault("let if if = 1", 7, 0);
        fault("let if sellers = 1", 7, 0);
        fault("let if selle = 1", 7, 0);
        fault("let if 1 \u0000= 1", 9, 0);
        fault("let if 1 \u00e9= 1", 9, 0);
        fault("let\tif 1 = 1", 3, 0);
        fault("let if 123456 = 1", 7, 1);
        fault("let if 000001 = 1", 7, 1);
        fault("let if 1 1", 9, 0);
        fault("let if 1 123456", 9, 0);
        fault("let if 1 = 123456; foo", 11, 1);
        fine("let if 1=1");
        fine("  let   if 1 = 1  ");
        fine("letif".substring(0, 3) + " if1=1or2=2and3=3");
        fine("fine5if1=1;bar if 2=2");
        fine("fine 99999 if 00000 = 99999");
        fine("let if not not 1 = 1 and not [1 = 1 or 2 <= (3 + 4) * 5]");
        fine("let if ((1)) = (1) - (2)");
    }

    private static void faultsOfLimits() {
        fine("let if " + Answers.times("[", 10) + "1=1" + Answers.times("]", 10));
        fault("let if " + Answers.times("[", 11) + "1=1" + Answers.times("]", 11), 17, 2);
        fine("let if " + Answers.times("(", 10) + "1" + Answers.times(")", 10) + "=1");
        fault("let if " + Answers.times("(", 11) + "1" + Answers.times(")", 11) + "=1", 17, 2);
        fine("let if " + Answers.times("not ", 10) + "1=1");
        fault("let if " + Answers.times("not ", 11) + "1=1", 47, 2);
        fine("let if not [not [not [not [(((1=1".replace("(((1", "((1))") + "]]]]");
        fault("let if not [not [not [not [not [1=(1)]]]]]", 34, 2);
        fine("let if not [1=1] and " + Answers.times("[", 10) + "1=1" + Answers.times("]", 10));
        fault("let if " + Answers.times("[", 10) + "[123456", 17, 2);
        // 79 values and one sign are 80
        fine("let if " + Answers.times("1+", 77) + "1=1");
        fault("let if " + Answers.times("1+", 78) + "1=1", 7 + 2 * 78 + 2, 3);
        fault("let if " + Answers.times("1+", 79) + "1=1", 7 + 2 * 79 + 1, 3);
        fault("let if " + Answers.times("1+", 80) + "1=1", 7 + 2 * 80, 3);
        fault("let if " + Answers.times("1+", 80) + "(1)=1", 7 + 2 * 80, 3);
        fault("let if " + Answers.times("1+", 80) + "123456=1", 7 + 2 * 80, 1);
        fault("let if " + Answers.times("1+", 80) + "foo=1", 7 + 2 * 80, 0);
        // a sum in ( ) is a value of its own
        fine("let if " + Answers.times("1+", 75) + "(1)=(1)");
        fault("let if " + Answers.times("1+", 76) + "(1)=(1)", 7 + 2 * 76 + 5, 3);
        // the clauses share the 80
        fault("let if " + Answers.times("1+", 77) + "1=1;bar if 1=1", 7 + 154 + 4 + 7, 3);
        String ten = Answers.times("let if 1=1;", 9) + "let if 1=1";
        fine(ten);
        fault(ten + ";", 110, 0);
        fault(ten + "; let if 1=1", 111, 4);
        fault(ten + "; lex if 1=1", 111, 0);
        fault(ten + ";fine", 110, 4);
        String wide = "let if 1=1" + Answers.times(" ", 390);
        fine(wide);
        fault(Answers.times(" ", 399) + "x", 399, 0);
        fault(Answers.times(" ", 400), 400, 0);
    }

    /** Bytes behind the tape's end, and laws told before, leave nothing behind. */
    private static void lawsLeaveNothing() {
        MerchantYard y = twoMen();
        Answers.write(y, "bar if 1=12345");
        y.end(10);
        A.due("a number cut short", y.law(0, 0), 0);
        A.due("is 1", y.verdict(0, 1, 0, 1, 0, 0, 0), 1);
        Answers.write(y, "bar if 9 = kinds");
        y.end(15);
        A.due("a word cut short", y.law(0, 0), 1);
        for (int k = 2; k < 30; k++) {
            String sum = Answers.times("1+", 30 + k);
            A.due("a long law", Answers.law(y, 0, 0, "fine " + k + " if " + sum + "0 = " + (30 + k) + "; bar if 1 = 1"), k);
            A.due("is true", y.verdict(0, 1, 0, 1, 0, 0, 0), 10 + k);
            A.due("a fault behind it", Answers.law(y, 0, 0, "bar if 1 = 1; let if 1 + 2"), k < 29 ? Answers.fault(26, 0) : -1);
        }
        A.due("the last law stands", y.verdict(0, 1, 0, 1, 0, 0, 0), 39);
    }

    private static void lawNumbers() {
        MerchantYard y = new MerchantYard();
        y.clock(4);
        Answers.write(y, "let if 1=1; bar if 1=2; fine 3 if 1=1");
        A.due("no such rank", y.law(3, 4), -1);
        A.due("no such rank", y.law(-1, 4), -1);
        A.due("a day ahead of NOW", y.law(1, 3), -1);
        A.due("no day", y.law(1, 4000), -1);
        A.due("the tape stays", y.count(9), 37);
        A.due("house, whatever day", y.law(0, -9), 0);
        A.due("treaty NOW", Answers.law(y, 1, 4, "let if 1=1"), 1);
        A.due("treaty on the last day", Answers.law(y, 1, 3999, "let if 1=1"), 2);
        A.due("diet, whatever day", Answers.law(y, 2, 5000, "let if 1=1"), 3);
        int[][] due = {{0, 3, 4, 4, -1}, {1, 1, 4, 4, -1}, {1, 1, 3999, 4, -1}, {2, 1, -1, 4, -1}};
        for (int k = 0; k < 4; k++) {
            for (int what = 0; what <= 4; what++) {
                A.due("laws(" + k + ", " + what + ")", y.laws(k, what), due[k][what]);
            }
            A.due("laws(" + k + ", -1)", y.laws(k, -1), -1);
        }
        A.due("laws(4, 0)", y.laws(4, 0), -1);
        A.due("laws(-1, 0)", y.laws(-1, 0), -1);
        for (int k = 4; k < 30; k++) {
            A.due("law " + k, Answers.law(y, k % 3, 10, "let if 1=1"), k);
        }
        Answers.write(y, "let if 1=1");
        A.due("a 31st", y.law(0, 0), -1);
        A.due("the tape stays", y.count(9), 10);
        Answers.write(y, "foo");
        A.due("a 31st with a fault", y.law(0, 0), -1);
        A.due("the tape stays", y.count(9), 3);
    }

    private static void readAndForce() {
        MerchantYard y = new MerchantYard();
        String text = "let if 1=1";
        A.due("diet", Answers.law(y, 2, 0, text), 0);
        A.due("diet", Answers.law(y, 2, 0, text), 1);
        A.due("house", Answers.law(y, 0, 0, text), 2);
        A.due("house", Answers.law(y, 0, 0, text), 3);
        A.due("treaty", Answers.law(y, 1, 9, text), 4);
        A.due("treaty", Answers.law(y, 1, 6, text), 5);
        A.due("treaty", Answers.law(y, 1, 9, text), 6);
        A.no("no such law", y.read(-1));
        A.no("no such law", y.read(7));
        A.no("a law of the house", y.read(2));
        A.no("a treaty", y.read(4));
        A.due("diet, none read", y.force(2, 3999), -1);
        y.clock(5);
        A.yes("read", y.read(1));
        A.no("read already", y.read(1));
        A.due("its day", y.laws(1, 2), 5);
        A.due("diet on 4", y.force(2, 4), -1);
        A.due("diet on 5", y.force(2, 5), 1);
        A.yes("read on the same day", y.read(0));
        A.due("of several the last told", y.force(2, 5), 1);
        A.due("house", y.force(0, 0), 3);
        A.due("house", y.force(0, 3999), 3);
        A.due("treaty on 5", y.force(1, 5), -1);
        A.due("treaty on 6", y.force(1, 6), 5);
        A.due("treaty on 8", y.force(1, 8), 5);
        A.due("treaty on 9", y.force(1, 9), 6);
        A.due("a treaty told later for an earlier day", Answers.law(y, 1, 7, text), 7);
        A.due("treaty on 8", y.force(1, 8), 7);
        A.due("treaty on 9", y.force(1, 9), 6);
        A.due("diet", Answers.law(y, 2, 0, text), 8);
        y.clock(6);
        y.read(8);
        A.due("the latest read", y.force(2, 6), 8);
        A.due("as it was", y.force(2, 5), 1);
        A.due("no such rank", y.force(-1, 0), -1);
        A.due("no such rank", y.force(3, 0), -1);
        A.due("no such day", y.force(0, -1), -1);
        A.due("no such day", y.force(0, 4000), -1);
    }

    private static MerchantYard twoMen() {
        MerchantYard y = new MerchantYard();
        y.man(3, false, 1000);
        y.man(8, true, 1000);
        y.bring(0, 5, 100);
        return y;
    }

    private static void ranks() {
        MerchantYard y = twoMen();
        A.due("no law", y.verdict(0, 1, 0, 1, 1, 0, 0), 0);
        Answers.law(y, 0, 0, "fine 1 if amount >= 1");
        A.due("house", y.verdict(0, 1, 0, 1, 1, 0, 0), 11);
        Answers.law(y, 1, 0, "fine 2 if amount >= 2");
        A.due("no clause of the treaty", y.verdict(0, 1, 0, 1, 1, 0, 0), 11);
        A.due("treaty", y.verdict(0, 1, 0, 2, 1, 0, 0), 12);
        Answers.law(y, 2, 0, "fine 3 if amount >= 3; bar if amount >= 3; let if amount = 1");
        A.due("not read", y.verdict(0, 1, 0, 3, 1, 0, 0), 12);
        y.read(2);
        A.due("diet", y.verdict(0, 1, 0, 3, 1, 0, 0), 13);
        A.due("told", y.told(0), 2);
        A.due("its first clause that is true", y.told(1), 0);
        A.due("treaty", y.verdict(0, 1, 0, 2, 1, 0, 0), 12);
        A.due("told", y.told(0), 1);
        A.due("diet lets", y.verdict(0, 1, 0, 1, 1, 0, 0), 0);
        A.due("told", y.told(1), 2);
        Answers.law(y, 2, 0, "let if 1 = 2");
        y.read(3);
        A.due("the former law of the diet is in force no more", y.verdict(0, 1, 0, 3, 1, 0, 0), 12);
    }

    /** Whether the test is true of that deal. */
    private static void truth(MerchantYard y, String test, int want, int... deal) {
        int k = Answers.law(y, 0, 0, "bar if " + test);
        A.yes(test + " is a law", k >= 0);
        A.due(test, y.verdict(deal[0], deal[1], deal[2], deal[3], deal[4], deal[5], deal[6]), want);
    }

    private static void words() {
        int[] deal = {0, 1, 0, 7, 31, 20, 23};
        MerchantYard y = twoMen();
        truth(y, "seller = 3 and buyer = 8 and kind = 5 and amount = 7", 1, deal);
        truth(y, "price = 31 and credit = 20 and hour = 23 and day = 0", 1, deal);
        truth(y, "winter = 1 and owes = 0 and late = 0 and shut = 0 and here = 0 and elder = 0", 1, deal);
        y.news(8, 5, 40, 50);
        y.news(8, 4, 41, 51);
        truth(y, "here = 40", 1, deal);
        y.shut(3, 0, 4);
        truth(y, "shut = 0", 1, deal);
        y.readShut(0);
        truth(y, "shut = 1", 1, deal);
        y.deal(0, 1, 0, 1, 100, 5, 0);
        A.due("barred", y.count(4), 0);
        Answers.law(y, 0, 0, "let if 1 = 1");
        y.deal(0, 1, 0, 1, 100, 5, 0);
        y.deal(0, 1, 0, 1, 10, 9, 0);
        truth(y, "owes = 110 and late = 0", 1, deal);
        y.order(1, 3, 10);
        truth(y, "elder = 1", 1, deal);
        y.clock(6);
        truth(y, "owes = 110 and late = 100 and shut = 0 and day = 6", 1, deal);
        y.man(1, false, 10);
        y.man(2, false, 10);
        y.bring(2, 0, 10);
        int[] others = {2, 3, 3, 1, 1, 0, 0};
        truth(y, "winter = 0 and elder = 0 and owes = 0 and seller = 1 and buyer = 2", 1, others);
        y.shut(2, 6, 6);
        y.readShut(1);
        truth(y, "shut = 1", 1, others);
        y.clock(7);
        truth(y, "shut = 0", 1, others);
    }

    private static void signs() {
        int[] deal = {0, 1, 0, 1, 1, 0, 0};
        MerchantYard y = twoMen();
        String[] truths = {
            "1 < 2", "1 <= 1", "1 <= 2", "1 = 1", "2 >= 2", "3 >= 2", "3 > 2", "not 1 = 2", "not not 1 = 1",
            "2 + 3 * 4 = 14", "(2 + 3) * 4 = 20", "9 - 3 - 2 = 4", "2 * 3 * 4 - 5 = 19", "1 - 2 < 0",
            "1 = 2 and 1 = 2 or 1 = 1", "1 = 1 or 1 = 1 and 1 = 2", "not 1 = 2 and 1 = 1",
            "not [1 = 1 and 1 = 2]", "[1 = 2 or 1 = 1] and 2 = 2", "((7)) = 00007"};
        String[] lies = {
            "2 < 2", "3 <= 2", "1 = 2", "1 >= 2", "2 > 2", "not 1 = 1", "not not 1 = 2", "[1 = 1 or 1 = 1] and 1 = 2",
            "not 1 = 1 or 1 = 2", "9 - 3 - 2 = 8"};
        for (String text : truths) {
            truth(y, text, 1, deal);
            y = twoMen();
        }
        for (String text : lies) {
            truth(y, text, 0, deal);
            y = twoMen();
        }
        // 65536 to the fourth goes round to 0, and 2 to the 63 lies below 0
        truth(y, "65536 * 65536 * 65536 * 65536 = 0", 1, deal);
        truth(y, "65536 * 65536 * 65536 * 32768 < 0", 1, deal);
        truth(y, "99999 * 99999 * 99999 * 99999 = (99999 * 99999) * (99999 * 99999)", 1, deal);
    }

    private static void verdictAnswers() {
        MerchantYard y = twoMen();
        Answers.law(y, 0, 0, "fine 99999 if amount = 1; fine 0 if amount = 2; bar if amount = 3");
        A.due("fine 99999", y.verdict(0, 1, 0, 1, 0, 0, 0), 100009);
        A.due("fine 0", y.verdict(0, 1, 0, 2, 0, 0, 0), 10);
        A.due("bar", y.verdict(0, 1, 0, 3, 0, 0, 0), 1);
        A.due("none", y.verdict(0, 1, 0, 4, 0, 0, 0), 0);
        A.due("nothing is sold", y.count(4) + y.count(2), 1);
        A.due("no seller", y.verdict(2, 1, 0, 1, 0, 0, 0), -1);
        A.due("no buyer", y.verdict(0, -1, 0, 1, 0, 0, 0), -1);
        A.due("both one", y.verdict(0, 0, 0, 1, 0, 0, 0), -1);
        A.due("no lot", y.verdict(0, 1, 1, 1, 0, 0, 0), -1);
        A.due("no lot", y.verdict(0, 1, -1, 1, 0, 0, 0), -1);
        A.due("not his lot", y.verdict(1, 0, 0, 1, 0, 0, 0), -1);
        A.due("amount 0", y.verdict(0, 1, 0, 0, 0, 0, 0), -1);
        A.due("amount 101", y.verdict(0, 1, 0, 101, 0, 0, 0), -1);
        A.due("price -1", y.verdict(0, 1, 0, 1, -1, 0, 0), -1);
        A.due("price 1000001", y.verdict(0, 1, 0, 1, 1000001, 0, 0), -1);
        A.due("credit -1", y.verdict(0, 1, 0, 1, 0, -1, 0), -1);
        A.due("credit 721", y.verdict(0, 1, 0, 1, 0, 721, 0), -1);
        A.due("hour -1", y.verdict(0, 1, 0, 1, 0, 0, -1), -1);
        A.due("hour 24", y.verdict(0, 1, 0, 1, 0, 0, 24), -1);
        A.due("a price above the purse", y.verdict(0, 1, 0, 4, 1000000, 0, 23), 0);
        for (int k = 1; k < 200; k++) {
            y.bring(0, 0, 1);
        }
        A.due("200 lots", y.verdict(0, 1, 0, 3, 0, 0, 0), 1);
        y.leave(1);
        A.due("he left", y.verdict(0, 1, 0, 1, 0, 0, 0), -1);
    }

    private static void told() {
        MerchantYard y = twoMen();
        Answers.law(y, 0, 0, "bar if amount = 1; fine 2 if amount = 2");
        A.due("ahead of any", y.told(0), -1);
        y.verdict(0, 1, 0, 2, 0, 0, 0);
        A.due("law", y.told(0), 0);
        A.due("clause", y.told(1), 1);
        A.due("another what", y.told(2), -1);
        A.due("another what", y.told(-1), -1);
        y.verdict(0, 1, 0, 0, 0, 0, 0);
        A.due("that came to no verdict", y.told(1), 1);
        A.due("barred", y.deal(0, 1, 0, 1, 0, 0, 0), 5);
        A.due("by", y.told(1), 0);
        A.due("too poor", y.deal(0, 1, 0, 2, 1001, 0, 0), 6);
        A.due("came to the verdict", y.told(1), 1);
        A.due("none told it", y.verdict(0, 1, 0, 9, 0, 0, 0), 0);
        A.due("none", y.told(0), -1);
        A.due("none", y.told(1), -1);
        y.verdict(0, 1, 0, 2, 0, 0, 0);
        for (int k = 1; k < 200; k++) {
            y.bring(0, 0, 1);
        }
        A.due("200 lots", y.deal(0, 1, 0, 1, 0, 0, 0), 4);
        A.due("that came to no verdict", y.told(1), 1);
    }

    private static void shut() {
        MerchantYard y = new MerchantYard();
        y.clock(50);
        A.due("town 8", y.shut(8, 0, 1), -1);
        A.due("town -1", y.shut(-1, 0, 1), -1);
        A.due("first -1", y.shut(0, -1, 1), -1);
        A.due("last 4000", y.shut(0, 0, 4000), -1);
        A.due("the first behind the last", y.shut(0, 3, 2), -1);
        A.due("one day, gone by", y.shut(0, 3, 3), 0);
        for (int k = 1; k < 20; k++) {
            A.due("shut " + k, y.shut(7, 0, 3999), k);
        }
        A.due("a 21st", y.shut(0, 0, 0), -1);
        A.due("count", y.count(8), 20);
        A.no("no such", y.readShut(-1));
        A.no("no such", y.readShut(20));
        A.yes("read", y.readShut(19));
        A.no("read already", y.readShut(19));
    }

    private static void isShut() {
        MerchantYard y = new MerchantYard();
        y.shut(2, 10, 20);
        y.shut(2, 20, 30);
        A.due("not read", y.isShut(2, 15, 3999), 0);
        y.clock(5);
        y.readShut(0);
        A.due("read by 5", y.isShut(2, 15, 5), 1);
        A.due("read by 4", y.isShut(2, 15, 4), 0);
        A.due("the first day", y.isShut(2, 10, 9), 1);
        A.due("the last day", y.isShut(2, 20, 9), 1);
        A.due("ahead of it", y.isShut(2, 9, 9), 0);
        A.due("behind it", y.isShut(2, 21, 9), 0);
        A.due("another town", y.isShut(3, 15, 9), 0);
        y.clock(7);
        y.readShut(1);
        A.due("the other by 7", y.isShut(2, 21, 7), 1);
        A.due("the other by 6", y.isShut(2, 21, 6), 0);
        A.due("town 8", y.isShut(8, 0, 0), -1);
        A.due("town -1", y.isShut(-1, 0, 0), -1);
        A.due("day -1", y.isShut(0, -1, 0), -1);
        A.due("day 4000", y.isShut(0, 4000, 0), -1);
        A.due("read -1", y.isShut(0, 0, -1), -1);
        A.due("read 4000", y.isShut(0, 0, 4000), -1);
    }
}
