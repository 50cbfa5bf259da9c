/** The bounds that promises 5 and 20 to 27 and parts III and VIII name, a test for each sentence, on both sides. */
public final class BoundsOfDealsTest {
    private static final Answers A = new Answers("BoundsOfDealsTest");

    public static void main(String[] args) {
        dealOfMenThere();
        dealOfALotOfTheSeller();
        dealValues();
        dealOfTwoHundredLots();
        dealBarred();
        dealWithinThePurse();
        dealTellsTheLeast();
        dealRefusedLeavesAll();
        dealSplitsTheLot();
        dealOnCredit();
        fineHalves();
        fineAsFarAsThePurseGoes();
        fineBehindThePrice();
        bargainRows();
        bargainOwedToWhom();
        suretyThree();
        suretyOfSomethingOwed();
        suretyMen();
        suretyRows();
        payCoins();
        payAsFarAsBothGo();
        payToOneWhoLeft();
        callBehindItsDay();
        callOfSomethingOwed();
        callShares();
        callPursesOfSureties();
        callPutsClaimsTogether();
        claimCoins();
        claimAsFarAsBothGo();
        lateByClaims();
        chests();
        dieOfThoseThere();
        dieHeirs();
        dieHeirOfLocals();
        dieByDaysThenNumbers();
        dieClaimsBehindBargains();
        dieLeavesAll();
        dieWithoutHeir();
        dieOwingHimself();
        dieOwedByOthers();
        A.end();
    }

    /** A man of each town from 0 on with that purse; man 0 has lot 0 of 1000. */
    private static MerchantYard house(int... purses) {
        MerchantYard y = new MerchantYard();
        for (int k = 0; k < purses.length; k++) {
            y.man(k % 8, false, purses[k]);
        }
        y.bring(0, 1, 1000);
        return y;
    }

    // ---- promise 20

    /** 1: no such MEN there, or both one. */
    private static void dealOfMenThere() {
        MerchantYard y = house(10, 10, 10, 10);
        A.due("seller -1", y.deal(-1, 1, 0, 1, 1, 0, 0), 1);
        A.due("seller 4", y.deal(4, 1, 0, 1, 1, 0, 0), 1);
        A.due("buyer -1", y.deal(0, -1, 0, 1, 1, 0, 0), 1);
        A.due("buyer 4", y.deal(0, 4, 0, 1, 1, 0, 0), 1);
        A.due("both one", y.deal(0, 0, 0, 1, 1, 0, 0), 1);
        A.due("buyer 3", y.deal(0, 3, 0, 1, 1, 0, 0), 100);
        y.leave(1);
        y.die(2);
        A.due("a buyer that left", y.deal(0, 1, 0, 1, 1, 0, 0), 1);
        A.due("a buyer that died", y.deal(0, 2, 0, 1, 1, 0, 0), 1);
        y.leave(0);
        A.due("a seller that left", y.deal(0, 3, 0, 1, 1, 0, 0), 1);
    }

    /** 2: no such LOT of the seller, or an amount not from 1 to what it has. */
    private static void dealOfALotOfTheSeller() {
        MerchantYard y = house(10, 10);
        A.due("lot -1", y.deal(0, 1, -1, 1, 1, 0, 0), 2);
        A.due("lot 1", y.deal(0, 1, 1, 1, 1, 0, 0), 2);
        A.due("not the seller's", y.deal(1, 0, 0, 1, 1, 0, 0), 2);
        A.due("amount -1", y.deal(0, 1, 0, -1, 1, 0, 0), 2);
        A.due("amount 0", y.deal(0, 1, 0, 0, 1, 0, 0), 2);
        A.due("amount 1001", y.deal(0, 1, 0, 1001, 1, 0, 0), 2);
        A.due("amount 1", y.deal(0, 1, 0, 1, 1, 0, 0), 100);
        A.due("amount 1000 of 999", y.deal(0, 1, 0, 1000, 1, 0, 0), 2);
        A.due("amount 999 of 999", y.deal(0, 1, 0, 999, 1, 0, 0), 101);
        A.due("of nothing", y.deal(0, 1, 0, 1, 1, 0, 0), 2);
        A.due("the new lot, of its man", y.deal(1, 0, 2, 999, 1, 0, 0), 102);
    }

    /** 3: a price (0 to 1000000); credit (0 to 720 DAYS); an hour (0 to 23). */
    private static void dealValues() {
        MerchantYard y = house(0, 1000000);
        A.due("price -1", y.deal(0, 1, 0, 1, -1, 0, 0), 3);
        A.due("price 1000001", y.deal(0, 1, 0, 1, 1000001, 5, 0), 3);
        A.due("credit -1", y.deal(0, 1, 0, 1, 0, -1, 0), 3);
        A.due("credit 721", y.deal(0, 1, 0, 1, 0, 721, 0), 3);
        A.due("hour -1", y.deal(0, 1, 0, 1, 0, 0, -1), 3);
        A.due("hour 24", y.deal(0, 1, 0, 1, 0, 0, 24), 3);
        A.due("the least of all", y.deal(0, 1, 0, 1, 0, 0, 0), 100);
        A.due("the most of all", y.deal(0, 1, 0, 1, 1000000, 720, 23), 101);
        A.due("owed", y.bargain(1, 4), 1000000);
        A.due("till", y.bargain(1, 5), 720);
        A.due("the greatest price at once", y.deal(0, 1, 0, 1, 1000000, 0, 23), 102);
        A.due("PURSE", y.men(0, 2), 1000000);
    }

    /** 4: 200 LOTS. (That 300 BARGAINS are too many can't be reached: each has a LOT of its own, of 200.) */
    private static void dealOfTwoHundredLots() {
        MerchantYard y = house(100, 100);
        for (int k = 0; k < 199; k++) {
            A.due("deal " + k, y.deal(0, 1, 0, 1, 0, 0, 0), 100 + k);
        }
        A.due("LOTS", y.count(2), 200);
        A.due("BARGAINS", y.count(4), 199);
        A.due("200 LOTS", y.deal(0, 1, 0, 1, 0, 0, 0), 4);
        A.due("200 LOTS, on credit", y.deal(0, 1, 0, 801, 0, 1, 0), 4);
        A.due("BARGAINS", y.count(4), 199);
        A.due("what is left", y.lot(0, 1), 801);
        A.due("the last bargain's lot", y.bargain(198, 2), 199);
        A.due("no 200th bargain", y.bargain(199, 2), -1);
    }

    /** 5: barred by THE VERDICT; a fine bars nothing. */
    private static void dealBarred() {
        MerchantYard y = house(100, 100);
        Answers.law(y, 0, 0, "bar if amount > 5; fine 1 if amount = 5");
        A.due("amount 6", y.deal(0, 1, 0, 6, 0, 0, 0), 5);
        A.due("amount 6, on credit", y.deal(0, 1, 0, 6, 0, 9, 0), 5);
        A.due("amount 5", y.deal(0, 1, 0, 5, 0, 0, 0), 100);
        A.due("fined", y.bargain(0, 7), 1);
        A.due("amount 4", y.deal(0, 1, 0, 4, 0, 0, 0), 101);
    }

    /** 6: credit is 0 and the buyer's PURSE is below the price. */
    private static void dealWithinThePurse() {
        MerchantYard y = house(0, 50);
        A.due("price 51 of 50", y.deal(0, 1, 0, 1, 51, 0, 0), 6);
        A.due("price 51 of 50, on credit of a day", y.deal(0, 1, 0, 1, 51, 1, 0), 100);
        A.due("price 50 of 50", y.deal(0, 1, 0, 1, 50, 0, 0), 101);
        A.due("PURSE", y.men(1, 2), 0);
        A.due("price 1 of 0", y.deal(0, 1, 0, 1, 1, 0, 0), 6);
        A.due("price 0 of 0", y.deal(0, 1, 0, 1, 0, 0, 0), 102);
    }

    /** It is told the least that holds: each number with the next one behind it. */
    private static void dealTellsTheLeast() {
        MerchantYard y = house(0, 0);
        Answers.law(y, 0, 0, "bar if 1=1");
        A.due("1 of 1 and 2", y.deal(0, 0, 9, 1, 1, 0, 0), 1);
        A.due("2 of 2 and 3", y.deal(0, 1, 9, 1, -1, 0, 0), 2);
        A.due("2 of 2 and 3, by the amount", y.deal(0, 1, 0, 0, 0, 0, 24), 2);
        for (int k = 1; k < 200; k++) {
            y.bring(0, 0, 1);
        }
        A.due("1 of all", y.deal(2, 1, 200, 0, -1, -1, -1), 1);
        A.due("3 of 3 and 4", y.deal(0, 1, 0, 1, 0, 721, 0), 3);
        A.due("4 of 4 and 5 and 6", y.deal(0, 1, 0, 1, 1, 0, 0), 4);
        y = house(0, 0);
        Answers.law(y, 0, 0, "bar if amount = 2");
        A.due("3 of 3 and 5", y.deal(0, 1, 0, 2, 1, 0, 24), 3);
        A.due("5 of 5 and 6", y.deal(0, 1, 0, 2, 1, 0, 0), 5);
        A.due("6", y.deal(0, 1, 0, 1, 1, 0, 0), 6);
    }

    /** What 5 and 6 leave as it was; told() alone tells of them. */
    private static void dealRefusedLeavesAll() {
        Refusals house = new Refusals(A, () -> {
            MerchantYard y = house(20, 10, 30);
            Answers.law(y, 0, 0, "bar if amount = 2; fine 9 if 1 = 1");
            y.deal(0, 1, 0, 5, 10, 0, 0);
            y.deal(0, 2, 0, 5, 7, 3, 0);
            y.verdict(0, 1, 0, 2, 0, 0, 0);
            return y;
        });
        house.due("barred", y -> y.deal(0, 1, 0, 2, 5, 0, 0), 5);
        house.due("barred, on credit", y -> y.deal(0, 2, 0, 2, 5, 7, 0), 5);
        house = new Refusals(A, () -> {
            MerchantYard y = house(20, 10, 30);
            Answers.law(y, 0, 0, "bar if amount = 2; fine 9 if 1 = 1");
            y.deal(0, 1, 0, 5, 9, 0, 0);
            return y;
        });
        house.due("too poor", y -> y.deal(0, 1, 0, 1, 2, 0, 0), 6);
    }

    /** A new LOT of that amount of the buyer, from that one. */
    private static void dealSplitsTheLot() {
        MerchantYard y = house(0, 0, 0);
        y.deal(0, 1, 0, 999, 0, 0, 0);
        A.due("what is left", y.lot(0, 1), 1);
        A.due("the new one", y.lot(1, 1), 999);
        A.due("as it came", y.lot(1, 4), 999);
        A.due("of", y.lot(1, 2), 1);
        A.due("from", y.lot(1, 3), 0);
        A.due("KIND", y.lot(1, 0), 1);
        y.deal(1, 2, 1, 999, 0, 0, 0);
        A.due("sold whole: nothing", y.lot(1, 1), 0);
        A.due("sold whole: as it came", y.lot(1, 4), 999);
        A.due("sold whole: of", y.lot(1, 2), 1);
        A.due("from", y.lot(2, 3), 1);
    }

    /** With credit the buyer owes it till DAY NOW + credit, which may lie behind DAY 3999; without, nothing is owed. */
    private static void dealOnCredit() {
        MerchantYard y = house(0, 100);
        y.clock(10);
        y.deal(0, 1, 0, 1, 7, 0, 0);
        y.deal(0, 1, 0, 1, 7, 1, 0);
        y.deal(0, 1, 0, 1, 0, 1, 0);
        A.due("without credit: till", y.bargain(0, 5), -1);
        A.due("without credit: owed", y.bargain(0, 4), 0);
        A.due("without credit: PURSES", y.men(0, 2) * 1000 + y.men(1, 2), 7093);
        A.due("credit 1: till", y.bargain(1, 5), 11);
        A.due("credit 1: owed", y.bargain(1, 4), 7);
        A.due("price 0: till", y.bargain(2, 5), 11);
        A.due("price 0: owed", y.bargain(2, 4), 0);
        y.clock(3999);
        y.deal(0, 1, 0, 1, 9, 720, 0);
        A.due("on the last day: till", y.bargain(3, 5), 4719);
        A.due("is never late", y.men(1, 4), 7);
        A.due("nor called", y.call(3), -1);
        A.due("but paid", y.pay(3, 9), 9);
    }

    // ---- fines

    /** The half (upwards) to the CHEST of the house, the rest to that of his TOWN (LOCAL: of the place, 8). */
    private static void fineHalves() {
        int[] house = {0, 1, 1, 2, 2, 3};
        for (int fine = 0; fine < 6; fine++) {
            MerchantYard y = new MerchantYard();
            y.man(fine % 2 == 0 ? 8 : 7, false, 100);
            y.man(1, false, 100);
            y.bring(0, 0, 10);
            Answers.law(y, 0, 0, "fine " + fine + " if 1=1");
            A.due("a deal", y.deal(0, 1, 0, 1, 0, 0, 0), 100);
            A.due("fine " + fine, y.bargain(0, 7), fine);
            A.due("of the house", y.chest(9), house[fine]);
            A.due("of the town", y.chest(fine % 2 == 0 ? 8 : 7), fine - house[fine]);
            A.due("seller", y.men(0, 2), 100 - fine);
            A.due("buyer", y.men(1, 2), 100);
            A.due("buyer's town", y.chest(1), 0);
        }
    }

    /** The seller pays n, as far as his PURSE goes. */
    private static void fineAsFarAsThePurseGoes() {
        for (int purse = 6; purse <= 8; purse++) {
            MerchantYard y = house(purse, 0);
            Answers.law(y, 0, 0, "fine 7 if 1=1");
            A.due("a deal", y.deal(0, 1, 0, 1, 5, 1, 0), 100);
            A.due("of " + purse, y.bargain(0, 7), Math.min(7, purse));
            A.due("PURSE", y.men(0, 2), Math.max(0, purse - 7));
            A.due("house", y.chest(9), purse == 6 ? 3 : 4);
            A.due("town", y.chest(0), 3);
        }
        MerchantYard y = house(0, 0);
        Answers.law(y, 0, 0, "fine 7 if 1=1");
        A.due("a deal", y.deal(0, 1, 0, 1, 5, 1, 0), 100);
        A.due("of nothing", y.bargain(0, 7), 0);
        A.due("what he owes", y.men(0, 3), 0);
    }

    /** Behind all that: the price is in his PURSE by then. */
    private static void fineBehindThePrice() {
        MerchantYard y = house(0, 100);
        Answers.law(y, 0, 0, "fine 99999 if 1=1");
        A.due("a deal", y.deal(0, 1, 0, 1, 15, 0, 0), 100);
        A.due("all of the price", y.bargain(0, 7), 15);
        A.due("the price stands", y.bargain(0, 3), 15);
        A.due("house and town", y.chest(9) * 100 + y.chest(0), 807);
        A.due("PURSES", y.men(0, 2) * 100 + y.men(1, 2), 85);
    }

    // ---- bargains and sureties

    /** Promise 21: NONE without it, or for another what. */
    private static void bargainRows() {
        MerchantYard y = house(9, 100, 100);
        y.clock(3);
        Answers.law(y, 0, 0, "fine 2 if amount = 4");
        y.deal(0, 1, 0, 4, 60, 30, 0);
        y.surety(0, 2);
        y.pay(0, 15);
        y.deal(0, 2, 0, 5, 0, 0, 0);
        int[][] due = {{0, 1, 1, 60, 45, 33, 1, 2, 3, 0}, {0, 2, 2, 0, 0, -1, 0, 0, 3, 0}};
        for (int what = 0; what < 10; what++) {
            A.due("bargain(-1, " + what + ")", y.bargain(-1, what), -1);
            A.due("bargain(0, " + what + ")", y.bargain(0, what), due[0][what]);
            A.due("bargain(1, " + what + ")", y.bargain(1, what), due[1][what]);
            A.due("bargain(2, " + what + ")", y.bargain(2, what), -1);
        }
        A.due("bargain(0, -1)", y.bargain(0, -1), -1);
        A.due("bargain(0, 10)", y.bargain(0, 10), -1);
    }

    /** Promise 21: to whom it is owed now (paid or not; NONE: nobody). */
    private static void bargainOwedToWhom() {
        MerchantYard y = new MerchantYard();
        y.man(0, false, 5);
        y.man(1, false, 100);
        y.man(0, false, 5);
        y.bring(0, 0, 10);
        y.deal(0, 1, 0, 1, 5, 0, 0);
        y.deal(0, 1, 0, 1, 5, 9, 0);
        y.leave(0);
        A.due("one that left", y.bargain(1, 9), 0);
        y = new MerchantYard();
        y.man(0, false, 5);
        y.man(1, false, 100);
        y.man(0, false, 5);
        y.bring(0, 0, 10);
        y.deal(0, 1, 0, 1, 5, 0, 0);
        y.deal(0, 1, 0, 1, 5, 9, 0);
        y.die(0);
        A.due("the heir, of a paid one", y.bargain(0, 9), 2);
        A.due("the heir", y.bargain(1, 9), 2);
        y.die(2);
        A.due("nobody, of a paid one", y.bargain(0, 9), -1);
        A.due("nobody", y.bargain(1, 9), -1);
    }

    /** Promise 22: 3 at most. */
    private static void suretyThree() {
        MerchantYard y = house(0, 0, 0, 0, 0, 0);
        y.deal(0, 1, 0, 1, 10, 5, 0);
        y.deal(0, 1, 0, 1, 10, 5, 0);
        A.due("the first", y.surety(0, 5), 1);
        A.due("the second", y.surety(0, 2), 2);
        A.due("the third", y.surety(0, 4), 3);
        A.due("a fourth", y.surety(0, 3), -1);
        A.due("three", y.bargain(0, 6), 3);
        A.due("of the other bargain", y.surety(1, 3), 1);
        A.due("and one of both", y.surety(1, 5), 2);
    }

    /** Promise 22: of a BARGAIN with something owed. */
    private static void suretyOfSomethingOwed() {
        MerchantYard y = house(0, 10, 0, 0);
        y.deal(0, 1, 0, 1, 0, 5, 0);
        y.deal(0, 1, 0, 1, 2, 5, 0);
        y.deal(0, 1, 0, 1, 1, 0, 0);
        A.due("on credit for nothing", y.surety(0, 2), -1);
        A.due("without credit", y.surety(2, 2), -1);
        A.due("bargain -1", y.surety(-1, 2), -1);
        A.due("bargain 3", y.surety(3, 2), -1);
        y.pay(1, 1);
        A.due("of one coin", y.surety(1, 2), 1);
        y.pay(1, 1);
        A.due("of nothing", y.surety(1, 3), -1);
        A.due("one", y.bargain(1, 6), 1);
    }

    /** Promise 22: MEN there, unlike, no seller or buyer of it. */
    private static void suretyMen() {
        MerchantYard y = house(0, 10, 0, 0, 0, 0);
        y.deal(0, 1, 0, 1, 20, 5, 0);
        y.leave(2);
        y.die(3);
        A.due("man -1", y.surety(0, -1), -1);
        A.due("man 6", y.surety(0, 6), -1);
        A.due("the seller", y.surety(0, 0), -1);
        A.due("the buyer", y.surety(0, 1), -1);
        A.due("one that left", y.surety(0, 2), -1);
        A.due("one that died", y.surety(0, 3), -1);
        A.due("the last man", y.surety(0, 5), 1);
        A.due("again", y.surety(0, 5), -1);
        A.due("another", y.surety(0, 4), 2);
        A.due("the first again", y.surety(0, 5), -1);
        A.due("two", y.bargain(0, 6), 2);
    }

    /** Promise 23: NONE without it, or for another what. */
    private static void suretyRows() {
        MerchantYard y = house(0, 0, 9, 4);
        y.deal(0, 1, 0, 1, 20, 5, 0);
        y.deal(0, 1, 0, 1, 20, 5, 0);
        y.surety(0, 3);
        y.surety(0, 2);
        y.clock(6);
        y.call(0);
        int[][] due = {{-1, -1, -1}, {3, 4, 3}, {2, 9, 2}, {-1, -1, -1}, {-1, -1, -1}};
        for (int i = -1; i <= 3; i++) {
            for (int what = 0; what < 3; what++) {
                A.due("surety " + i + " what " + what, y.sureties(0, i, what), due[i + 1][what]);
            }
            A.due("of a bargain without one " + i, y.sureties(1, i, 0), -1);
        }
        A.due("what -1", y.sureties(0, 0, -1), -1);
        A.due("what 3", y.sureties(0, 0, 3), -1);
        A.due("bargain -1", y.sureties(-1, 0, 0), -1);
        A.due("bargain 2", y.sureties(2, 0, 0), -1);
    }

    // ---- what is paid and called

    /** Promise 24: 1 and more coins. */
    private static void payCoins() {
        MerchantYard y = house(0, 100);
        y.deal(0, 1, 0, 1, 20, 5, 0);
        A.due("bargain -1", y.pay(-1, 1), -1);
        A.due("bargain 1", y.pay(1, 1), -1);
        A.due("-1 coins", y.pay(0, -1), -1);
        A.due("0 coins", y.pay(0, 0), -1);
        A.due("1 coin", y.pay(0, 1), 1);
        A.due("owed", y.bargain(0, 4), 19);
        A.due("PURSES", y.men(0, 2) * 1000 + y.men(1, 2), 1099);
    }

    /** Promise 24: as far as both go: what is owed, and the PURSE; NONE if nothing is owed. */
    private static void payAsFarAsBothGo() {
        MerchantYard y = house(0, 100);
        y.deal(0, 1, 0, 1, 20, 5, 0);
        y.deal(0, 1, 0, 1, 20, 5, 0);
        y.deal(0, 1, 0, 1, 200, 5, 0);
        A.due("one less than is owed", y.pay(0, 19), 19);
        A.due("one more than is owed", y.pay(0, 2), 1);
        A.due("nothing owed", y.pay(0, 1), -1);
        A.due("all that is owed", y.pay(1, 20), 20);
        A.due("nothing owed", y.pay(1, Integer.MAX_VALUE), -1);
        A.due("more than the PURSE", y.pay(2, 61), 60);
        A.due("an empty PURSE", y.pay(2, 1), 0);
        A.due("owed still", y.bargain(2, 4), 140);
        A.due("seller", y.men(0, 2), 100);
        y = house(0, 100);
        y.deal(0, 1, 0, 1, 100, 5, 0);
        A.due("as much as it is", y.pay(0, Integer.MAX_VALUE), 100);
    }

    /** PAID: to the seller's PURSE (there or not); the buyer may be gone as well. */
    private static void payToOneWhoLeft() {
        MerchantYard y = house(0, 100);
        y.deal(0, 1, 0, 1, 20, 5, 0);
        y.leave(0);
        A.due("to one that left", y.pay(0, 5), 5);
        A.due("his PURSE", y.men(0, 2), 5);
        y.leave(1);
        A.due("by one that left", y.pay(0, 5), 5);
        A.due("his PURSE", y.men(0, 2), 10);
        y.clock(6);
        A.due("called of one that left", y.call(0), 10);
    }

    /** Promise 25: NONE, and nothing happens, not behind its DAY (NOW above it). */
    private static void callBehindItsDay() {
        MerchantYard y = house(0, 100);
        y.deal(0, 1, 0, 1, 20, 5, 0);
        A.due("at once", y.call(0), -1);
        y.clock(4);
        A.due("the day ahead", y.call(0), -1);
        y.clock(5);
        A.due("its day", y.call(0), -1);
        A.due("owed", y.bargain(0, 4), 20);
        y.clock(6);
        A.due("the day behind", y.call(0), 20);
        A.due("owed", y.bargain(0, 4), 0);
    }

    /** Promise 25: no such BARGAIN, nothing owed; 0 coins come where nobody has any. */
    private static void callOfSomethingOwed() {
        MerchantYard y = house(0, 1);
        y.deal(0, 1, 0, 1, 2, 1, 0);
        y.deal(0, 1, 0, 1, 0, 1, 0);
        y.deal(0, 1, 0, 1, 0, 0, 0);
        y.clock(9);
        A.due("bargain -1", y.call(-1), -1);
        A.due("bargain 3", y.call(3), -1);
        A.due("for nothing, on credit", y.call(1), -1);
        A.due("without credit", y.call(2), -1);
        A.due("as far as his PURSE goes", y.call(0), 1);
        A.due("nothing comes", y.call(0), 0);
        A.due("what is left stays owed", y.bargain(0, 4), 1);
        y.bring(1, 0, 1);
        y.deal(0, 1, 0, 1, 0, 0, 0);
        A.due("he earns a coin", y.deal(1, 0, 4, 1, 1, 0, 0), 104);
        A.due("the last coin", y.call(0), 1);
        A.due("nothing owed", y.call(0), -1);
    }

    /** CALLED: each the rest by how many of them are left, with him (upwards). */
    private static void callShares() {
        int[][] due = {{1, 0, 0}, {1, 1, 0}, {1, 1, 1}, {2, 1, 1}, {2, 2, 1}, {2, 2, 2}, {3, 2, 2}};
        for (int rest = 1; rest <= 7; rest++) {
            MerchantYard y = house(0, 5, 100, 100, 100);
            y.deal(0, 1, 0, 1, rest + 5, 1, 0);
            y.surety(0, 4);
            y.surety(0, 3);
            y.surety(0, 2);
            y.clock(2);
            A.due("called", y.call(0), rest + 5);
            for (int i = 0; i < 3; i++) {
                A.due("share " + i + " of " + rest, y.sureties(0, i, 1), due[rest - 1][i]);
                A.due("PURSE of " + (4 - i), y.men(4 - i, 2), 100 - due[rest - 1][i]);
            }
            A.due("seller", y.men(0, 2), rest + 5);
            A.due("owed", y.bargain(0, 4), 0);
            A.due("OWES", y.men(1, 3), rest);
        }
        MerchantYard y = house(0, 1000, 100);
        y.deal(0, 1, 0, 1, 1000, 1, 0);
        y.surety(0, 2);
        y.clock(2);
        A.due("the buyer has all", y.call(0), 1000);
        A.due("no claim", y.sureties(0, 0, 1), 0);
    }

    /** CALLED: as far as his PURSE goes, there or not; what then is left stays owed. */
    private static void callPursesOfSureties() {
        MerchantYard y = house(0, 0, 9, 10, 11);
        y.deal(0, 1, 0, 1, 31, 1, 0);
        y.surety(0, 2);
        y.surety(0, 3);
        y.surety(0, 4);
        y.leave(3);
        y.clock(2);
        // of 31 the first owes 11 and has 9, of 22 the second 11 and has 10, of 12 the third 12 and has 11
        A.due("called", y.call(0), 30);
        A.due("claims", y.sureties(0, 0, 1) * 10000 + y.sureties(0, 1, 1) * 100 + y.sureties(0, 2, 1), 91011);
        A.due("stays owed", y.bargain(0, 4), 1);
        A.due("OWES", y.men(1, 3), 31);
        y = house(0, 0, 11, 10, 10);
        y.deal(0, 1, 0, 1, 31, 1, 0);
        y.surety(0, 2);
        y.surety(0, 3);
        y.surety(0, 4);
        y.die(4);
        y.clock(2);
        A.due("one that died has nothing", y.call(0), 21);
        A.due("stays owed", y.bargain(0, 4), 10);
        A.due("his claim", y.sureties(0, 2, 1), 0);
    }

    /** A CLAIM by BARGAIN and SURETY: what he pays when it is CALLED again comes to it. */
    private static void callPutsClaimsTogether() {
        MerchantYard y = house(0, 0, 5);
        y.deal(0, 1, 0, 1, 8, 1, 0);
        y.surety(0, 2);
        y.clock(2);
        A.due("called", y.call(0), 5);
        y.bring(2, 0, 1);
        y.man(4, false, 50);
        y.deal(2, 3, 2, 1, 50, 0, 0);
        A.due("called again", y.call(0), 3);
        A.due("claim", y.sureties(0, 0, 1), 8);
        A.due("PURSE", y.men(2, 2), 47);
        A.due("OWES", y.men(1, 3), 8);
    }

    /** Promise 26: 1 and more coins; NONE, and nothing happens, without it, or if nothing is claimed. */
    private static void claimCoins() {
        MerchantYard y = house(0, 5, 100, 100);
        y.deal(0, 1, 0, 1, 20, 1, 0);
        y.surety(0, 2);
        y.deal(0, 1, 0, 1, 1, 1, 0);
        A.due("nothing claimed yet", y.claim(0, 0, 1), -1);
        y.clock(2);
        y.call(0);
        y.bring(1, 0, 1);
        y.deal(1, 3, 3, 1, 30, 0, 0);
        A.due("bargain -1", y.claim(-1, 0, 1), -1);
        A.due("bargain 1, without a surety", y.claim(1, 0, 1), -1);
        A.due("bargain 3", y.claim(3, 0, 1), -1);
        A.due("surety -1", y.claim(0, -1, 1), -1);
        A.due("surety 1", y.claim(0, 1, 1), -1);
        A.due("surety 2", y.claim(0, 2, 1), -1);
        A.due("surety 3", y.claim(0, 3, 1), -1);
        A.due("-1 coins", y.claim(0, 0, -1), -1);
        A.due("0 coins", y.claim(0, 0, 0), -1);
        A.due("1 coin", y.claim(0, 0, 1), 1);
        A.due("PURSES", y.men(1, 2) * 1000 + y.men(2, 2), 29086);
        A.due("claimed", y.sureties(0, 0, 1), 14);
    }

    /** Promise 26: as far as both go. */
    private static void claimAsFarAsBothGo() {
        MerchantYard y = house(0, 0, 100, 100, 100);
        y.deal(0, 1, 0, 1, 60, 1, 0);
        y.surety(0, 2);
        y.surety(0, 3);
        y.clock(2);
        y.call(0);
        A.due("an empty PURSE", y.claim(0, 0, 30), 0);
        y.bring(1, 0, 9);
        y.deal(1, 4, 2, 1, 40, 0, 0);
        A.due("one less than is claimed", y.claim(0, 0, 29), 29);
        A.due("one more than is claimed", y.claim(0, 0, 2), 1);
        A.due("nothing claimed", y.claim(0, 0, 1), -1);
        A.due("more than the PURSE", y.claim(0, 1, Integer.MAX_VALUE), 10);
        A.due("claimed still", y.sureties(0, 1, 1), 20);
        y.deal(1, 4, 2, 1, 20, 0, 0);
        A.due("all that is claimed", y.claim(0, 1, 20), 20);
        A.due("OWES", y.men(1, 3), 0);
    }

    /** LATE: CLAIMS at once, of BARGAINS whose DAY is ahead of NOW. */
    private static void lateByClaims() {
        MerchantYard y = house(0, 0, 6);
        y.deal(0, 1, 0, 1, 10, 1, 0);
        y.deal(0, 1, 0, 1, 300, 2, 0);
        y.surety(0, 2);
        y.clock(1);
        A.due("none on the day", y.men(1, 4), 0);
        y.clock(2);
        A.due("the first", y.men(1, 4), 10);
        y.call(0);
        A.due("what is left and the claim", y.men(1, 4), 10);
        A.due("OWES", y.men(1, 3), 310);
        y.clock(3);
        A.due("both", y.men(1, 4), 310);
    }

    /** Promise 27: of a TOWN, 8 of the place, 9 of the house; NONE without it. */
    private static void chests() {
        MerchantYard y = new MerchantYard();
        for (int town = 0; town <= 8; town++) {
            y.man(town, false, 100 + town);
            y.die(town);
        }
        A.due("chest -1", y.chest(-1), -1);
        for (int town = 0; town <= 8; town++) {
            A.due("chest " + town, y.chest(town), 100 + town);
        }
        A.due("chest 9", y.chest(9), 0);
        A.due("chest 10", y.chest(10), -1);
    }

    // ---- promise 5

    /** -2 without him there. */
    private static void dieOfThoseThere() {
        MerchantYard y = house(1, 1, 1);
        A.due("man -1", y.die(-1), -2);
        A.due("man 3", y.die(3), -2);
        A.due("the last man", y.die(2), -1);
        A.due("again", y.die(2), -2);
        y.leave(1);
        A.due("one that left", y.die(1), -2);
        A.due("his PURSE", y.men(1, 2), 1);
        A.due("from that DAY on", y.men(2, 7), 0);
        A.due("there", y.men(2, 1), 0);
    }

    /** The HEIR: the least MAN there of his TOWN; not himself, not one that is gone, not one of another TOWN. */
    private static void dieHeirs() {
        MerchantYard y = new MerchantYard();
        int[] towns = {5, 4, 4, 4, 8, 4};
        for (int town : towns) {
            y.man(town, false, 10);
        }
        y.leave(1);
        A.due("of 2, 3 and 5", y.die(3), 2);
        A.due("of 2 and 5, the least is himself", y.die(2), 5);
        A.due("the last of them", y.die(5), -1);
        A.due("the heir's PURSE went on", y.chest(4), 30);
        A.due("the only one of his TOWN", y.die(0), -1);
        y.man(5, false, 1);
        A.due("one that came later is no heir", y.chest(5), 10);
    }

    /** LOCAL: of LOCAL ones; without one to the CHEST of the place. */
    private static void dieHeirOfLocals() {
        MerchantYard y = new MerchantYard();
        y.man(0, false, 1);
        y.man(8, false, 2);
        y.man(7, false, 4);
        y.man(8, false, 8);
        A.due("a local one", y.die(1), 3);
        A.due("his PURSE", y.men(3, 2), 10);
        A.due("the last local one", y.die(3), -1);
        A.due("the place", y.chest(8), 10);
        A.due("the house", y.chest(9), 0);
    }

    /** BARGAINS by the DAYS till which, then numbers, each once, as far as the PURSE goes. */
    private static void dieByDaysThenNumbers() {
        int[][] due = {{10, 10, 10, 10}, {10, 10, 9, 10}, {10, 10, 0, 10}, {10, 10, 0, 9}, {10, 10, 0, 0}, {9, 10, 0, 0},
            {0, 10, 0, 0}, {0, 9, 0, 0}, {0, 0, 0, 0}};
        int[] purse = {0, 1, 10, 11, 20, 21, 30, 31, 40};
        for (int n = 0; n < purse.length; n++) {
            MerchantYard y = house(0, purse[n]);
            y.deal(0, 1, 0, 1, 10, 7, 0);
            y.deal(0, 1, 0, 1, 10, 8, 0);
            y.deal(0, 1, 0, 1, 10, 3, 0);
            y.deal(0, 1, 0, 1, 10, 3, 0);
            A.due("no heir", y.die(1), -1);
            for (int k = 0; k < 4; k++) {
                A.due("bargain " + k + " of " + purse[n], y.bargain(k, 4), due[n][k]);
            }
            A.due("paid", y.men(0, 2), purse[n]);
            A.due("chest", y.chest(1), 0);
        }
    }

    /** Then CLAIMS by BARGAINS, then SURETIES. */
    private static void dieClaimsBehindBargains() {
        int[][] due = {{5, 5, 6}, {4, 5, 6}, {0, 5, 6}, {0, 4, 6}, {0, 0, 6}, {0, 0, 5}, {0, 0, 0}, {0, 0, 0}};
        int[] purse = {7, 8, 12, 13, 17, 18, 23, 24};
        for (int n = 0; n < purse.length; n++) {
            MerchantYard y = house(0, 0, 100, 100, 100);
            y.deal(0, 1, 0, 1, 10, 2, 0);
            y.deal(0, 1, 0, 1, 6, 1, 0);
            y.deal(0, 1, 0, 1, 7, 300, 0);
            y.surety(0, 3);
            y.surety(0, 2);
            y.surety(1, 2);
            y.clock(3);
            y.call(1);
            y.call(0);
            y.bring(1, 0, 1);
            y.deal(1, 4, 4, 1, purse[n], 0, 0);
            A.due("no heir", y.die(1), -1);
            A.due("the bargain of " + purse[n], y.bargain(2, 4), 0);
            A.due("claim 0 of bargain 0 of " + purse[n], y.sureties(0, 0, 1), due[n][0]);
            A.due("claim 1 of bargain 0 of " + purse[n], y.sureties(0, 1, 1), due[n][1]);
            A.due("claim of bargain 1 of " + purse[n], y.sureties(1, 0, 1), due[n][2]);
            A.due("what is left", y.chest(1), purse[n] == 24 ? 1 : 0);
        }
    }

    /** What is left of it, and his LOTS (of amount 0, too), go to the HEIR. */
    private static void dieLeavesAll() {
        MerchantYard y = new MerchantYard();
        y.man(1, false, 30);
        y.man(0, false, 50);
        y.man(1, false, 5);
        y.bring(0, 1, 10);
        y.bring(0, 2, 20);
        y.bring(1, 3, 30);
        y.deal(0, 1, 0, 10, 0, 0, 0);
        y.deal(1, 0, 2, 1, 40, 7, 0);
        y.deal(0, 1, 1, 1, 15, 0, 0);
        A.due("heir", y.die(0), 2);
        A.due("what is left of 45", y.men(2, 2), 10);
        A.due("his PURSE", y.men(0, 2), 0);
        int[] man = {2, 2, 1, 1, 2, 1};
        int[] amount = {0, 19, 29, 10, 1, 1};
        for (int k = 0; k < 6; k++) {
            A.due("man of lot " + k, y.lot(k, 2), man[k]);
            A.due("amount of lot " + k, y.lot(k, 1), amount[k]);
        }
        A.due("the heir sells it", y.deal(2, 1, 1, 19, 0, 0, 0), 103);
    }

    /** Without one the coins to the CHEST of his TOWN (8 LOCAL), and the LOTS are nothing any more. */
    private static void dieWithoutHeir() {
        MerchantYard y = house(30, 50);
        y.deal(0, 1, 0, 10, 0, 0, 0);
        A.due("no heir", y.die(0), -1);
        A.due("chest", y.chest(0), 30);
        A.due("his lot", y.lot(0, 1), 0);
        A.due("as it came", y.lot(0, 4), 1000);
        A.due("the buyer's lot", y.lot(1, 1), 10);
        A.due("LOTS", y.count(2), 2);
        A.due("coins of all", y.count(13), 80);
        y.man(0, false, 0);
        A.due("nobody sells it", y.deal(2, 1, 0, 1, 0, 0, 0), 2);
    }

    /** What he owes himself comes back to his PURSE, each once. */
    private static void dieOwingHimself() {
        int[] rest = {0, 0, 0, 2};
        int[] other = {0, 0, 2, 5};
        int[] purse = {12, 7, 5, 2};
        for (int n = 0; n < 4; n++) {
            MerchantYard y = new MerchantYard();
            y.man(1, false, 0);
            y.man(1, false, purse[n]);
            y.man(2, false, 0);
            y.bring(0, 0, 9);
            y.bring(2, 0, 9);
            y.deal(0, 1, 0, 1, 4, 1, 0);
            y.deal(2, 1, 1, 1, 7, 2, 0);
            y.die(0);
            A.due("he owes himself", y.bargain(0, 9), 1);
            A.due("no heir", y.die(1), -1);
            A.due("to himself, of " + purse[n], y.bargain(0, 4), rest[n]);
            A.due("to the other, of " + purse[n], y.bargain(1, 4), other[n]);
            A.due("chest", y.chest(1), Math.max(0, purse[n] - 7));
        }
    }

    /** What others owe him is owed to the HEIR, without one to nobody: what is paid then goes to the CHEST of his TOWN. */
    private static void dieOwedByOthers() {
        MerchantYard y = new MerchantYard();
        y.man(3, false, 0);
        y.man(1, false, 10);
        y.man(8, false, 10);
        y.man(3, false, 0);
        y.bring(0, 0, 9);
        y.deal(0, 1, 0, 1, 40, 1, 0);
        y.surety(0, 2);
        y.die(0);
        A.due("the heir", y.bargain(0, 9), 3);
        A.due("paid to him", y.pay(0, 4), 4);
        A.due("his PURSE", y.men(3, 2), 4);
        y.die(3);
        A.due("nobody", y.bargain(0, 9), -1);
        A.due("paid to nobody", y.pay(0, 1), 1);
        A.due("the chest of his TOWN", y.chest(3), 5);
        y.clock(2);
        A.due("called for nobody", y.call(0), 15);
        A.due("the chest of his TOWN", y.chest(3), 20);
        A.due("the claim's man", y.sureties(0, 0, 2), 2);
        y.die(2);
        A.due("the claim is nobody's", y.sureties(0, 0, 2), -1);
        A.due("the surety is he still", y.sureties(0, 0, 0), 2);
        y.man(4, false, 6);
        y.bring(1, 0, 1);
        y.deal(1, 4, 2, 1, 6, 0, 0);
        A.due("the claim is paid", y.claim(0, 0, 5), 5);
        A.due("the chest of the place", y.chest(8), 5);
        A.due("dead, owing", y.die(1), -1);
        A.due("the bargain comes first", y.chest(3), 21);
        A.due("the chest of the place", y.chest(8), 5);
        A.due("coins of all", y.count(13), 26);
    }
}
