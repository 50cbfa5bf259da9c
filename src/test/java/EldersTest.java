/** Promises 32 and 33: the order of the towns and the elder. */
public final class EldersTest {
    private static final Answers A = new Answers("EldersTest");

    public static void main(String[] args) {
        order();
        atFirst();
        turns();
        comings();
        A.end();
    }

    private static void order() {
        MerchantYard y = new MerchantYard();
        y.man(5, false, 0);
        A.yes("eight towns", y.order(8, 0x76543210L, 1));
        A.due("elder", y.elder(5), 0);
        A.no("nine", y.order(9, 0x876543210L, 1));
        A.no("none", y.order(0, 0, 1));
        A.no("-1", y.order(-1, 0, 1));
        A.no("0 days", y.order(1, 0, 0));
        A.no("401 days", y.order(1, 0, 401));
        A.no("town 8", y.order(2, 0x80, 1));
        A.no("town 15", y.order(1, 0xf, 1));
        A.no("alike", y.order(3, 0x121, 1));
        A.no("alike", y.order(2, 0x00, 1));
        A.no("alike", y.order(8, 0x72543217, 1));
        A.due("as it was", y.elder(5), 0);
        A.yes("400 days", y.order(1, 0, 400));
        A.due("none of town 0", y.elder(5), -1);
        A.yes("others don't matter", y.order(1, 0xffffffffffffff55L, 1));
        A.due("of town 5", y.elder(0), 0);
        A.yes("a number below 0", y.order(8, 0xf000000076543210L, 90));
    }

    private static void atFirst() {
        MerchantYard y = new MerchantYard();
        y.man(1, false, 0);
        y.clock(1);
        y.man(0, false, 0);
        A.due("there behind the first day", y.elder(1), -1);
        A.due("the term's last day", y.elder(89), -1);
        A.due("the next term", y.elder(90), 1);
        A.due("the last day", y.elder(3999), 1);
        A.due("no day", y.elder(4000), -1);
        A.due("no day", y.elder(-1), -1);
    }

    private static void turns() {
        MerchantYard y = new MerchantYard();
        y.man(8, false, 0);
        y.man(6, false, 0);
        y.man(2, false, 0);
        y.man(2, false, 0);
        y.man(6, false, 0);
        y.order(3, 0x426, 10);
        int[] due = {1, 2, 1, 1, 2, 1, 1};
        for (int term = 0; term < 7; term++) {
            A.due("term " + term, y.elder(10 * term), due[term]);
            A.due("its last day, " + term, y.elder(10 * term + 9), due[term]);
        }
        y.man(4, false, 0);
        A.due("the third has one", y.elder(25), 5);
    }

    private static void comings() {
        MerchantYard y = new MerchantYard();
        y.order(2, 0x10, 10);
        y.man(0, false, 0);
        y.man(1, false, 0);
        y.clock(5);
        y.leave(0);
        A.due("he was there on the first day", y.elder(9), 0);
        A.due("in his next turn no more", y.elder(20), 1);
        y.clock(10);
        y.man(0, false, 0);
        y.die(1);
        A.due("dead on the term's first day", y.elder(10), 2);
        A.due("his former term", y.elder(0), 0);
        y.clock(12);
        y.man(1, false, 0);
        A.due("come behind the first day", y.elder(19), 2);
        A.due("the turn round", y.elder(30), 3);
    }
}
