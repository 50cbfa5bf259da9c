/** The bounds that promises 1 to 4, 6 to 8 and 49 name, a test for each sentence, on both sides of the bound. */
public final class BoundsOfHouseTest {
    private static final Answers A = new Answers("BoundsOfHouseTest");

    public static void main(String[] args) {
        newObjectIsEmpty();
        newObjectCountsFromNothing();
        clockTakesItsOwnOrALaterDay();
        clockTakesDaysTo3999();
        manOfATown();
        manWithCoins();
        manThereAreForty();
        manCountsThoseWhoAreGone();
        leaveOfThoseThere();
        leaveFromThatDayOn();
        bringOfThoseThere();
        bringKinds();
        bringAmounts();
        bringThereAreTwoHundred();
        lotRows();
        lotOfAmountNothing();
        menRows();
        menCameAndGone();
        menLateBehindTheDay();
        countRows();
        countCoins();
        A.end();
    }

    /** Promise 1: no MEN, no LAWS; DAY 0. */
    private static void newObjectIsEmpty() {
        MerchantYard y = new MerchantYard();
        A.due("NOW", y.count(0), 0);
        A.due("MEN", y.count(1), 0);
        A.due("LAWS", y.count(3), 0);
        for (int what = 0; what < 8; what++) {
            A.due("men(0, " + what + ")", y.men(0, what), -1);
            A.due("laws(0, " + what + ")", y.laws(0, what), -1);
        }
        for (int rank = 0; rank < 3; rank++) {
            A.due("no law of rank " + rank + " in force", y.force(rank, 3999), -1);
        }
        A.no("nobody leaves", y.leave(0));
        A.due("nobody dies", y.die(0), -2);
        A.due("nobody brings", y.bring(0, 0, 1), -1);
        A.due("nobody deals", y.deal(0, 1, 0, 1, 1, 0, 0), 1);
        A.due("nobody plans", y.plan(0), -1);
        A.due("nobody broke", y.broke(0), -1);
        A.due("no entry of nobody", y.entry(0, 0, 0, 0), -1);
    }

    /** Promise 1, with all numbers from 0 on. */
    private static void newObjectCountsFromNothing() {
        MerchantYard y = new MerchantYard();
        A.due("first man", y.man(0, false, 1), 0);
        A.due("second man", y.man(0, false, 1), 1);
        A.due("came on", y.men(0, 6), 0);
        A.due("first lot", y.bring(0, 0, 2), 0);
        A.due("first law", Answers.law(y, 0, 0, "let if 1=1"), 0);
        A.due("first port shut", y.shut(0, 0, 0), 0);
        A.due("first bargain", y.deal(0, 1, 0, 1, 1, 1, 0), 100);
        A.due("first weighing", y.weigh(0, 2, 1), 0);
        A.due("first ship", y.ship(0, 0, 1, 1), 0);
        A.due("first news", y.news(0, 0, 0, 0), 1);
        A.due("first of ours", y.entry(0, 0, 0, 0), 0);
        A.due("first of home's", y.entry(1, 0, 0, 0), 0);
    }

    /** Promise 2: its own or a later one. */
    private static void clockTakesItsOwnOrALaterDay() {
        MerchantYard y = new MerchantYard();
        A.yes("day 0 on day 0", y.clock(0));
        A.no("day -1", y.clock(-1));
        A.yes("day 10", y.clock(10));
        A.yes("day 10 on day 10", y.clock(10));
        A.no("day 9 on day 10", y.clock(9));
        A.due("NOW", y.count(0), 10);
        A.yes("day 11 on day 10", y.clock(11));
        A.due("NOW", y.count(0), 11);
    }

    /** Promise 2: DAYS 0 to 3999. */
    private static void clockTakesDaysTo3999() {
        MerchantYard y = new MerchantYard();
        A.no("day 4000", y.clock(4000));
        A.due("NOW", y.count(0), 0);
        A.yes("day 3999", y.clock(3999));
        A.no("day 4000 on day 3999", y.clock(4000));
        A.no("day 3998 on day 3999", y.clock(3998));
        A.yes("day 3999 on day 3999", y.clock(3999));
        A.due("NOW", y.count(0), 3999);
    }

    /** Promise 3: TOWNS 0 to 7, 8 for a LOCAL one. */
    private static void manOfATown() {
        MerchantYard y = new MerchantYard();
        A.due("town -1", y.man(-1, false, 1), -1);
        for (int town = 0; town <= 8; town++) {
            A.due("town " + town, y.man(town, false, 1), town);
            A.due("is told as", y.men(town, 0), town);
        }
        A.due("town 9", y.man(9, false, 1), -1);
        A.due("MEN", y.count(1), 9);
    }

    /** Promise 3: coins 0 to 1000000 as he comes. That a PURSE of 2000000000 takes no more can't be reached: 40 men bring 40000000. */
    private static void manWithCoins() {
        MerchantYard y = new MerchantYard();
        A.due("coins -1", y.man(0, false, -1), -1);
        A.due("coins 0", y.man(0, false, 0), 0);
        A.due("PURSE", y.men(0, 2), 0);
        A.due("coins 1000000", y.man(0, false, 1000000), 1);
        A.due("PURSE", y.men(1, 2), 1000000);
        A.due("coins 1000001", y.man(0, false, 1000001), -1);
        A.due("coins of all", y.count(13), 1000000);
        y.bring(0, 0, 1);
        A.due("a deal for all of it", y.deal(0, 1, 0, 1, 1000000, 0, 0), 100);
        y.man(0, false, 1000000);
        y.bring(0, 0, 1);
        y.deal(0, 2, 2, 1, 1000000, 0, 0);
        A.due("a PURSE grows above what one may come with", y.men(0, 2), 2000000);
    }

    /** Promise 3: NONE, there are 40. */
    private static void manThereAreForty() {
        MerchantYard y = new MerchantYard();
        for (int k = 0; k < 39; k++) {
            y.man(0, false, 1);
        }
        A.due("the 40th", y.man(3, true, 9), 39);
        A.due("the 41st", y.man(3, true, 9), -1);
        A.due("MEN", y.count(1), 40);
        A.due("the 40th's town", y.men(39, 0), 3);
        A.due("the 40th brings", y.bring(39, 0, 1), 0);
        A.due("no 41st", y.men(40, 0), -1);
        A.due("coins of all", y.count(13), 48);
    }

    /** Promise 3: those who left or died are of the 40 still. */
    private static void manCountsThoseWhoAreGone() {
        MerchantYard y = new MerchantYard();
        for (int k = 0; k < 40; k++) {
            y.man(k % 9, false, 1);
        }
        y.leave(0);
        y.die(1);
        A.due("behind one that left and one that died", y.man(0, false, 1), -1);
        A.due("MEN", y.count(1), 40);
    }

    /** Promise 4: false without him there. */
    private static void leaveOfThoseThere() {
        MerchantYard y = new MerchantYard();
        y.man(0, false, 1);
        y.man(0, false, 1);
        A.no("man -1", y.leave(-1));
        A.no("man 2", y.leave(2));
        A.yes("man 1", y.leave(1));
        A.no("man 1 again", y.leave(1));
        y.die(0);
        A.no("a dead one", y.leave(0));
    }

    /** Promise 4, MEN: there till he leaves, and from that DAY on no more; as told by elder() of terms of one day. */
    private static void leaveFromThatDayOn() {
        MerchantYard y = new MerchantYard();
        y.order(1, 0, 1);
        y.clock(3);
        y.man(0, false, 1);
        y.clock(5);
        y.leave(0);
        A.due("the day ahead of his coming", y.elder(2), -1);
        A.due("the day of his coming", y.elder(3), 0);
        A.due("the day ahead of his leaving", y.elder(4), 0);
        A.due("the day of his leaving", y.elder(5), -1);
        A.due("there", y.men(0, 1), 0);
        A.due("there no more from", y.men(0, 7), 5);
        y.man(0, false, 1);
        y.leave(1);
        A.due("gone on the day on which he came", y.elder(5), -1);
    }

    /** Promise 6: of a MAN there. */
    private static void bringOfThoseThere() {
        MerchantYard y = new MerchantYard();
        y.man(0, false, 1);
        y.man(0, false, 1);
        y.man(0, false, 1);
        A.due("man -1", y.bring(-1, 0, 1), -1);
        A.due("man 3", y.bring(3, 0, 1), -1);
        A.due("man 2", y.bring(2, 0, 1), 0);
        A.due("from nothing", y.lot(0, 3), -1);
        A.due("of", y.lot(0, 2), 2);
        y.leave(2);
        A.due("one that left", y.bring(2, 0, 1), -1);
        y.die(1);
        A.due("one that died", y.bring(1, 0, 1), -1);
        A.due("LOTS", y.count(2), 1);
    }

    /** Promise 6: KINDS 0 to 7. */
    private static void bringKinds() {
        MerchantYard y = new MerchantYard();
        y.man(0, false, 1);
        A.due("kind -1", y.bring(0, -1, 1), -1);
        A.due("kind 0", y.bring(0, 0, 1), 0);
        A.due("kind 7", y.bring(0, 7, 1), 1);
        A.due("kind 8", y.bring(0, 8, 1), -1);
        A.due("is told", y.lot(1, 0), 7);
        A.due("LOTS", y.count(2), 2);
    }

    /** Promise 6: an amount of 1 to 100000. */
    private static void bringAmounts() {
        MerchantYard y = new MerchantYard();
        y.man(0, false, 1);
        A.due("amount 0", y.bring(0, 0, 0), -1);
        A.due("amount 1", y.bring(0, 0, 1), 0);
        A.due("amount 100000", y.bring(0, 0, 100000), 1);
        A.due("amount 100001", y.bring(0, 0, 100001), -1);
        A.due("is told", y.lot(1, 1), 100000);
        A.due("as it came", y.lot(1, 4), 100000);
        A.due("LOTS", y.count(2), 2);
    }

    /** Promise 6: NONE, there are 200; those of deals and those of amount 0 are of them. */
    private static void bringThereAreTwoHundred() {
        MerchantYard y = new MerchantYard();
        y.man(0, false, 1);
        y.man(0, false, 1);
        y.bring(0, 0, 5);
        y.deal(0, 1, 0, 5, 0, 0, 0);
        for (int k = 2; k < 199; k++) {
            y.bring(0, 0, 1);
        }
        A.due("the 200th", y.bring(0, 6, 9), 199);
        A.due("the 201st", y.bring(0, 6, 9), -1);
        A.due("LOTS", y.count(2), 200);
        A.due("the 200th's amount", y.lot(199, 1), 9);
        A.due("no 201st", y.lot(200, 1), -1);
    }

    /** Promise 7: NONE without it, or for another what. */
    private static void lotRows() {
        MerchantYard y = new MerchantYard();
        y.man(0, false, 1);
        y.man(1, false, 1);
        y.bring(0, 7, 30);
        y.deal(0, 1, 0, 10, 0, 0, 0);
        int[][] due = {{-1, -1, -1, -1, -1, -1, -1}, {-1, 7, 20, 0, -1, 30, -1}, {-1, 7, 10, 1, 0, 10, -1}, {-1, -1, -1, -1, -1, -1, -1}};
        for (int k = -1; k <= 2; k++) {
            for (int what = -1; what <= 5; what++) {
                A.due("lot(" + k + ", " + what + ")", y.lot(k, what), due[k + 1][what + 1]);
            }
        }
    }

    /** LOTS: one of amount 0 is nothing any more, but keeps its row. */
    private static void lotOfAmountNothing() {
        MerchantYard y = new MerchantYard();
        y.man(0, false, 1);
        y.man(1, false, 1);
        y.bring(0, 7, 2);
        y.deal(0, 1, 0, 1, 0, 0, 0);
        A.due("of amount 1 it goes", y.plan(0), 0);
        A.due("as one lot", y.planned(-1, 0), 1);
        A.due("and is sold", y.deal(0, 1, 0, 1, 0, 0, 0), 101);
        A.due("amount", y.lot(0, 1), 0);
        A.due("of amount 0 it can't be sold", y.deal(0, 1, 0, 1, 0, 0, 0), 2);
        A.due("nor an amount of 0 of it", y.deal(0, 1, 0, 0, 0, 0, 0), 2);
        A.due("nor judged", y.verdict(0, 1, 0, 1, 0, 0, 0), -1);
        y.plan(0);
        A.due("nor does it go", y.planned(-1, 0), 0);
        A.due("its man", y.lot(0, 2), 0);
        A.due("as it came", y.lot(0, 4), 2);
    }

    /** Promise 8: NONE without him, or for another what. */
    private static void menRows() {
        MerchantYard y = new MerchantYard();
        y.clock(2);
        y.man(8, true, 7);
        y.man(3, false, 9);
        int[][] due = {{-1, -1, -1, -1, -1, -1, -1, -1, -1, -1}, {-1, 8, 1, 7, 0, 0, 1, 2, -1, -1},
            {-1, 3, 1, 9, 0, 0, 0, 2, -1, -1}, {-1, -1, -1, -1, -1, -1, -1, -1, -1, -1}};
        for (int k = -1; k <= 2; k++) {
            for (int what = -1; what <= 8; what++) {
                A.due("men(" + k + ", " + what + ")", y.men(k, what), due[k + 1][what + 1]);
            }
        }
    }

    /** Promise 8: the DAY on which he came, from 0 to 3999, and that from which on he is there no more. */
    private static void menCameAndGone() {
        MerchantYard y = new MerchantYard();
        y.man(0, false, 1);
        y.leave(0);
        A.due("gone on day 0", y.men(0, 7), 0);
        A.due("there", y.men(0, 1), 0);
        y.clock(3999);
        y.man(0, false, 1);
        A.due("came on day 3999", y.men(1, 6), 3999);
        A.due("there", y.men(1, 1), 1);
        A.due("gone: not yet", y.men(1, 7), -1);
        y.die(1);
        A.due("gone on day 3999", y.men(1, 7), 3999);
        A.due("came on day 0", y.men(0, 6), 0);
    }

    /** Promise 8, LATE: of BARGAINS whose DAY is ahead of NOW; OWES: of all. */
    private static void menLateBehindTheDay() {
        MerchantYard y = new MerchantYard();
        y.man(0, false, 1);
        y.man(1, false, 1);
        y.bring(0, 0, 100);
        y.deal(0, 1, 0, 1, 5, 3, 0);
        y.deal(0, 1, 0, 1, 70, 4, 0);
        int[] late = {0, 0, 0, 0, 5, 75};
        for (int day = 0; day < 6; day++) {
            y.clock(day);
            A.due("late on " + day, y.men(1, 4), late[day]);
            A.due("owes on " + day, y.men(1, 3), 75);
        }
        y.pay(0, 1);
        A.due("late, behind a coin", y.men(1, 4), 74);
        A.due("owes, behind a coin", y.men(1, 3), 74);
    }

    /** Promise 49: NONE for others than what 0 to 13. */
    private static void countRows() {
        MerchantYard y = new MerchantYard();
        y.clock(3999);
        A.due("count(-1)", y.count(-1), -1);
        A.due("count(0)", y.count(0), 3999);
        for (int what = 1; what <= 13; what++) {
            A.due("count(" + what + ")", y.count(what), 0);
        }
        A.due("count(14)", y.count(14), -1);
    }

    /** Promise 49, what 13: coins of all PURSES and CHESTS; the most that can be reached. Nothing is lost in fact. */
    private static void countCoins() {
        MerchantYard y = new MerchantYard();
        for (int k = 0; k < 40; k++) {
            y.man(k % 9, false, 1000000);
        }
        A.due("all purses", y.count(13), 40000000);
        for (int k = 0; k < 40; k++) {
            y.die(k);
        }
        A.due("all chests", y.count(13), 40000000);
        A.due("chest of town 0", y.chest(0), 5000000);
        A.due("chest of the place", y.chest(8), 4000000);
    }
}
