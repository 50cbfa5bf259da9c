/** Promise 49: count. */
public final class CountTest {
    private static final Answers A = new Answers("CountTest");

    public static void main(String[] args) {
        MerchantYard y = new MerchantYard();
        y.clock(3);
        y.man(0, false, 10);
        y.man(1, false, 1000000);
        y.leave(0);
        y.man(0, false, 5);
        y.bring(1, 0, 10);
        y.bring(2, 0, 10);
        y.deal(1, 2, 0, 1, 0, 0, 0);
        for (int k = 0; k < 4; k++) {
            Answers.law(y, k % 3, 9, "let if 1 = 1");
        }
        for (int k = 0; k < 5; k++) {
            y.weigh(1, 5, 5);
        }
        y.takeBack(2);
        for (int k = 0; k < 6; k++) {
            y.ship(0, 4, 1, 1);
        }
        for (int k = 0; k < 7; k++) {
            y.news(0, 0, 1, 1);
        }
        for (int k = 0; k < 8; k++) {
            y.shut(0, 0, 0);
        }
        y.feed(0, 0, 0, 0, 0);
        y.end(9);
        for (int k = 0; k < 7; k++) {
            y.hand(k, 0, 0, 1);
        }
        for (int k = 0; k < 10; k++) {
            y.entry(0, 0, 0, 0);
        }
        for (int k = 0; k < 9; k++) {
            y.entry(1, 0, 0, 0);
        }
        long[] due = {3, 3, 3, 4, 1, 5, 6, 7, 8, 9, 7, 10, 9, 1000015};
        for (int what = 0; what < 14; what++) {
            A.due("count(" + what + ")", y.count(what), due[what]);
        }
        A.due("count(14)", y.count(14), -1);
        A.due("count(-1)", y.count(-1), -1);
        y.die(1);
        y.die(2);
        A.due("coins of all behind two deaths", y.count(13), 1000015);
        A.due("a chest", y.chest(1), 1000000);
        A.due("an heir left has none", y.chest(0), 5);
        A.end();
    }
}
