/** Promises 5 and 20 to 27: deals, sureties, what is paid and called, chests, and a dead man's chest. */
public final class BargainsTest {
    private static final Answers A = new Answers("BargainsTest");

    public static void main(String[] args) {
        dealRefused();
        dealFull();
        dealCash();
        dealFined();
        bargainRow();
        surety();
        pay();
        call();
        callByTurns();
        claim();
        chest();
        dieWithHeir();
        dieWithoutHeir();
        dieByOrder();
        dieOwingHimself();
        dieAsSurety();
        A.end();
    }

    private static MerchantYard house(int... purses) {
        MerchantYard y = new MerchantYard();
        for (int k = 0; k < purses.length; k++) {
            y.man(k % 8, false, purses[k]);
        }
        y.bring(0, 1, 1000);
        return y;
    }

    private static void dealRefused() {
        MerchantYard y = house(100, 100, 100);
        A.due("no seller", y.deal(-1, 1, 0, 1, 1, 0, 0), 1);
        A.due("no buyer", y.deal(0, 3, 0, 1, 1, 0, 0), 1);
        A.due("both one, and no lot", y.deal(0, 0, 9, 1, 1, 0, 0), 1);
        A.due("no lot", y.deal(0, 1, 1, 1, 1, 0, 0), 2);
        A.due("no lot, and a price", y.deal(0, 1, -1, 1, -1, 0, 0), 2);
        A.due("not of the seller", y.deal(1, 0, 0, 1, 1, 0, 0), 2);
        A.due("amount 0", y.deal(0, 1, 0, 0, 1, 0, 0), 2);
        A.due("amount 1001", y.deal(0, 1, 0, 1001, 1, 0, 0), 2);
        A.due("price -1", y.deal(0, 1, 0, 1, -1, 0, 0), 3);
        A.due("price 1000001", y.deal(0, 1, 0, 1, 1000001, 1, 0), 3);
        A.due("credit -1", y.deal(0, 1, 0, 1, 1, -1, 0), 3);
        A.due("credit 721", y.deal(0, 1, 0, 1, 1, 721, 0), 3);
        A.due("hour -1", y.deal(0, 1, 0, 1, 1, 0, -1), 3);
        A.due("hour 24", y.deal(0, 1, 0, 1, 1, 0, 24), 3);
        A.due("too poor", y.deal(0, 1, 0, 1, 101, 0, 0), 6);
        Answers.law(y, 0, 0, "bar if price > 100");
        A.due("barred, and too poor", y.deal(0, 1, 0, 1, 101, 0, 0), 5);
        A.due("barred on credit", y.deal(0, 1, 0, 1, 101, 1, 0), 5);
        A.due("nothing happened", y.count(2) * 1000 + y.count(4) * 100 + y.lot(0, 1), 2000);
        y.leave(2);
        A.due("he left", y.deal(0, 2, 0, 1, 1, 0, 0), 1);
        A.due("all his purse", y.deal(0, 1, 0, 1000, 100, 0, 23), 100);
        A.due("nothing any more", y.deal(0, 1, 0, 1, 0, 0, 0), 2);
    }

    private static void dealFull() {
        MerchantYard y = house(100, 100);
        for (int k = 1; k < 199; k++) {
            y.bring(0, 0, 1);
        }
        A.due("the 200th lot", y.deal(0, 1, 0, 1, 0, 0, 0), 100);
        Answers.law(y, 0, 0, "bar if 1 = 1");
        A.due("200 lots, and barred", y.deal(0, 1, 0, 1, 0, 0, 0), 4);
        A.due("price, and 200 lots", y.deal(0, 1, 0, 1, -1, 0, 0), 3);
    }

    private static void dealCash() {
        MerchantYard y = house(100, 80);
        A.due("a deal", y.deal(0, 1, 0, 400, 30, 0, 5), 100);
        A.due("seller's purse", y.men(0, 2), 130);
        A.due("buyer's purse", y.men(1, 2), 50);
        A.due("the rest of the lot", y.lot(0, 1), 600);
        A.due("the new lot", y.lot(1, 1), 400);
        A.due("of the buyer", y.lot(1, 2), 1);
        A.due("from", y.lot(1, 3), 0);
        A.due("a gift", y.deal(0, 1, 0, 1, 0, 0, 0), 101);
        A.due("sold on, and back", y.deal(1, 0, 1, 400, 130, 0, 0), 102);
        A.due("purse", y.men(0, 2), 0);
        A.due("from a lot that is from a lot", y.lot(3, 3), 1);
    }

    private static void dealFined() {
        MerchantYard y = new MerchantYard();
        y.man(2, false, 10);
        y.man(8, false, 1000);
        y.bring(0, 0, 100);
        y.bring(1, 0, 100);
        Answers.law(y, 0, 0, "fine 7 if amount = 7; fine 99999 if amount = 9; fine 0 if amount = 10");
        A.due("fined on credit", y.deal(0, 1, 0, 7, 500, 3, 0), 100);
        A.due("paid", y.bargain(0, 7), 7);
        A.due("half of it upwards", y.chest(9), 4);
        A.due("the rest", y.chest(2), 3);
        A.due("purse", y.men(0, 2), 3);
        A.due("fined behind the price", y.deal(0, 1, 0, 9, 20, 0, 0), 101);
        A.due("as far as his purse goes", y.bargain(1, 7), 23);
        A.due("purse", y.men(0, 2), 0);
        A.due("house", y.chest(9), 16);
        A.due("town", y.chest(2), 14);
        A.due("a fine of 0", y.deal(0, 1, 0, 10, 5, 0, 0), 102);
        A.due("nothing paid", y.bargain(2, 7), 0);
        A.due("a local man fined", y.deal(1, 0, 1, 7, 0, 0, 0), 103);
        A.due("house", y.chest(9), 20);
        A.due("the place", y.chest(8), 3);
        A.due("coins of all", y.count(13), 1010);
    }

    private static void bargainRow() {
        MerchantYard y = house(100, 100, 100);
        y.clock(12);
        Answers.law(y, 0, 0, "fine 3 if 1 = 1");
        y.deal(0, 1, 0, 5, 60, 720, 0);
        y.surety(0, 2);
        y.pay(0, 20);
        int[] due = {0, 1, 1, 60, 40, 732, 1, 3, 12, 0, -1};
        for (int what = 0; what <= 10; what++) {
            A.due("bargain(0, " + what + ")", y.bargain(0, what), due[what]);
            A.due("bargain(1, " + what + ")", y.bargain(1, what), -1);
            A.due("bargain(-1, " + what + ")", y.bargain(-1, what), -1);
        }
        A.due("bargain(0, -1)", y.bargain(0, -1), -1);
        y.deal(0, 1, 0, 5, 0, 1, 0);
        A.due("on credit for nothing: owed", y.bargain(1, 4), 0);
        A.due("on credit for nothing: till", y.bargain(1, 5), 13);
        y.clock(3990);
        y.deal(0, 1, 0, 5, 1, 20, 0);
        A.due("till a day behind all days", y.bargain(2, 5), 4010);
    }

    private static void surety() {
        MerchantYard y = house(100, 100, 100, 100, 100, 100);
        y.deal(0, 1, 0, 1, 10, 0, 0);
        y.deal(0, 1, 0, 1, 10, 5, 0);
        A.due("nothing owed", y.surety(0, 2), -1);
        A.due("no bargain", y.surety(2, 2), -1);
        A.due("no bargain", y.surety(-1, 2), -1);
        A.due("the seller", y.surety(1, 0), -1);
        A.due("the buyer", y.surety(1, 1), -1);
        A.due("no man", y.surety(1, 6), -1);
        A.due("no man", y.surety(1, -1), -1);
        A.due("first", y.surety(1, 4), 1);
        A.due("again", y.surety(1, 4), -1);
        A.due("second", y.surety(1, 2), 2);
        y.leave(5);
        A.due("he left", y.surety(1, 5), -1);
        A.due("third", y.surety(1, 3), 3);
        y.man(0, false, 0);
        A.due("a fourth", y.surety(1, 6), -1);
        int[] men = {4, 2, 3};
        for (int i = 0; i < 3; i++) {
            A.due("in their order", y.sureties(1, i, 0), men[i]);
            A.due("claim", y.sureties(1, i, 1), 0);
            A.due("to whom", y.sureties(1, i, 2), men[i]);
            A.due("another what", y.sureties(1, i, 3), -1);
            A.due("another what", y.sureties(1, i, -1), -1);
        }
        A.due("no surety", y.sureties(1, 3, 0), -1);
        A.due("no surety", y.sureties(1, -1, 0), -1);
        A.due("no surety", y.sureties(0, 0, 0), -1);
        A.due("no bargain", y.sureties(2, 0, 0), -1);
        A.due("no bargain", y.sureties(-1, 0, 0), -1);
    }

    private static void pay() {
        MerchantYard y = house(0, 50);
        y.deal(0, 1, 0, 1, 80, 5, 0);
        A.due("no bargain", y.pay(1, 1), -1);
        A.due("no bargain", y.pay(-1, 1), -1);
        A.due("0 coins", y.pay(0, 0), -1);
        A.due("-1 coins", y.pay(0, -1), -1);
        A.due("one", y.pay(0, 1), 1);
        A.due("some", y.pay(0, 19), 19);
        A.due("owed", y.bargain(0, 4), 60);
        y.leave(0);
        A.due("as far as the purse goes, to one who left", y.pay(0, Integer.MAX_VALUE), 30);
        A.due("his purse", y.men(0, 2), 50);
        A.due("nothing there", y.pay(0, 1), 0);
        A.due("owed", y.bargain(0, 4), 30);
        y.man(3, false, 40);
        y.bring(1, 2, 10);
        y.deal(1, 2, 2, 1, 40, 0, 0);
        A.due("up to what is owed", y.pay(0, 31), 30);
        A.due("nothing owed", y.pay(0, 1), -1);
        A.due("purse", y.men(1, 2), 10);
    }

    private static void call() {
        MerchantYard y = house(0, 10, 3, 100, 100);
        y.deal(0, 1, 0, 1, 100, 5, 0);
        y.surety(0, 2);
        y.surety(0, 3);
        y.surety(0, 4);
        A.due("no bargain", y.call(1), -1);
        A.due("no bargain", y.call(-1), -1);
        y.clock(5);
        A.due("on its day", y.call(0), -1);
        y.clock(6);
        y.leave(3);
        // 90 are left: 30 of which he has 3, then 87 / 2 upwards, then 43
        A.due("called", y.call(0), 100);
        A.due("buyer", y.men(1, 2), 0);
        A.due("first", y.sureties(0, 0, 1), 3);
        A.due("second", y.sureties(0, 1, 1), 44);
        A.due("third", y.sureties(0, 2, 1), 43);
        A.due("purses", y.men(2, 2) * 1000000 + y.men(3, 2) * 1000 + y.men(4, 2), 56057);
        A.due("seller", y.men(0, 2), 100);
        A.due("owed", y.bargain(0, 4), 0);
        A.due("owes", y.men(1, 3), 90);
        A.due("late", y.men(1, 4), 90);
        A.due("called again", y.call(0), -1);
        A.due("no fourth surety's claim", y.claim(0, 3, 1), -1);
        A.due("no fourth surety", y.sureties(0, 3, 0), -1);
        y.deal(0, 1, 0, 1, 10, 0, 0);
        A.due("a bargain without credit", y.call(1), -1);
    }

    private static void callByTurns() {
        MerchantYard y = house(0, 0, 10, 10, 10);
        y.deal(0, 1, 0, 1, 100, 1, 0);
        y.surety(0, 2);
        y.clock(2);
        A.due("first call", y.call(0), 10);
        A.due("what is left stays owed", y.bargain(0, 4), 90);
        A.due("nothing comes", y.call(0), 0);
        y.surety(0, 3);
        y.surety(0, 4);
        A.due("second call", y.call(0), 20);
        A.due("claim of the first", y.sureties(0, 0, 1), 10);
        A.due("owed", y.bargain(0, 4), 70);
        A.due("owes", y.men(1, 3), 100);
        y.man(7, false, 60);
        y.bring(2, 0, 1);
        y.deal(2, 5, 2, 1, 60, 0, 0);
        A.due("third call: the first again", y.call(0), 24);
        A.due("claim of the first grows", y.sureties(0, 0, 1), 34);
    }

    private static void claim() {
        MerchantYard y = house(0, 0, 50, 50);
        y.deal(0, 1, 0, 1, 60, 1, 0);
        y.surety(0, 2);
        y.surety(0, 3);
        y.clock(2);
        A.due("nothing claimed", y.claim(0, 0, 1), -1);
        y.call(0);
        A.due("no bargain", y.claim(1, 0, 1), -1);
        A.due("no bargain", y.claim(-1, 0, 1), -1);
        A.due("no surety", y.claim(0, 2, 1), -1);
        A.due("no surety", y.claim(0, -1, 1), -1);
        A.due("0 coins", y.claim(0, 0, 0), -1);
        A.due("an empty purse", y.claim(0, 0, 5), 0);
        y.deal(1, 0, 1, 1, 40, 0, 0);
        A.due("one", y.claim(0, 1, 1), 1);
        A.due("some", y.claim(0, 1, 4), 4);
        A.due("the rest of it", y.claim(0, 1, 100), 25);
        A.due("paid", y.claim(0, 1, 1), -1);
        A.due("purse", y.men(3, 2), 50);
        y.leave(2);
        A.due("as far as the purse goes", y.claim(0, 0, 100), 10);
        A.due("to one who left", y.men(2, 2), 30);
        A.due("claimed still", y.sureties(0, 0, 1), 20);
        A.due("owes", y.men(1, 3), 20);
    }

    private static void chest() {
        MerchantYard y = new MerchantYard();
        A.due("chest(-1)", y.chest(-1), -1);
        A.due("chest(10)", y.chest(10), -1);
        A.due("chest(9)", y.chest(9), 0);
        y.man(7, false, 9);
        y.man(8, false, 4);
        y.die(0);
        y.die(1);
        A.due("chest(7)", y.chest(7), 9);
        A.due("chest(8)", y.chest(8), 4);
    }

    private static void dieWithHeir() {
        MerchantYard y = new MerchantYard();
        y.man(1, false, 100);
        y.man(2, false, 100);
        y.man(1, false, 100);
        y.man(1, false, 100);
        y.man(1, false, 100);
        y.bring(3, 0, 10);
        y.bring(3, 1, 10);
        y.deal(3, 1, 0, 10, 30, 4, 0);
        y.deal(3, 1, 1, 1, 20, 0, 0);
        y.leave(0);
        A.due("no such man", y.die(5), -2);
        A.due("no such man", y.die(-1), -2);
        A.due("he left", y.die(0), -2);
        A.due("the least there of his town", y.die(3), 2);
        A.due("dead already", y.die(3), -2);
        A.due("there no more", y.men(3, 1), 0);
        A.due("from", y.men(3, 7), 0);
        A.due("his purse", y.men(3, 2), 0);
        A.due("the heir's", y.men(2, 2), 220);
        A.due("a lot of amount 0", y.lot(0, 2), 2);
        A.due("a lot", y.lot(1, 2), 2);
        A.due("its amount", y.lot(1, 1), 9);
        A.due("the buyer keeps his", y.lot(2, 2), 1);
        A.due("owed to the heir", y.bargain(0, 9), 2);
        A.due("paid, to the heir too", y.bargain(1, 9), 2);
        A.due("the seller stays", y.bargain(0, 0), 3);
        y.pay(0, 30);
        A.due("paid to the heir", y.men(2, 2), 250);
        A.due("then the next", y.die(2), 4);
        A.due("passed on", y.bargain(0, 9), 4);
        A.due("then nobody", y.die(4), -1);
        A.due("nobody", y.bargain(0, 9), -1);
        A.due("the chest", y.chest(1), 350);
    }

    private static void dieWithoutHeir() {
        MerchantYard y = new MerchantYard();
        y.man(8, false, 100);
        y.man(2, false, 500);
        y.man(0, false, 500);
        y.bring(0, 0, 10);
        y.deal(0, 1, 0, 4, 30, 4, 0);
        y.surety(0, 2);
        A.due("no heir", y.die(0), -1);
        A.due("the place's chest", y.chest(8), 100);
        A.due("the lot is nothing any more", y.lot(0, 1), 0);
        A.due("as it came", y.lot(0, 4), 10);
        A.due("the buyer's lot stays", y.lot(1, 1), 4);
        A.due("owed to nobody", y.bargain(0, 9), -1);
        A.due("still owed", y.bargain(0, 4), 30);
        A.due("paid", y.pay(0, 10), 10);
        A.due("to the chest", y.chest(8), 110);
        y.clock(5);
        y.deal(1, 2, 1, 4, 0, 0, 0);
        A.due("called", y.call(0), 20);
        A.due("to the chest", y.chest(8), 130);
        A.due("coins of all", y.count(13), 1100);
        y.man(8, false, 0);
        A.due("a man who comes later is no heir", y.bargain(0, 9), -1);
    }

    private static void dieByOrder() {
        MerchantYard y = new MerchantYard();
        y.man(0, false, 0);
        y.man(1, false, 100);
        y.man(2, false, 0);
        y.man(3, false, 0);
        y.man(4, false, 20);
        y.bring(0, 0, 10);
        y.bring(2, 0, 10);
        y.bring(3, 0, 10);
        y.deal(0, 1, 0, 1, 60, 9, 0);
        y.deal(2, 1, 1, 1, 30, 5, 0);
        y.deal(3, 1, 2, 1, 40, 9, 0);
        y.deal(3, 1, 2, 1, 7, 5, 0);
        A.due("no heir", y.die(1), -1);
        A.due("by day 5", y.men(2, 2), 30);
        A.due("by day 9, the first", y.men(0, 2), 60);
        A.due("by day 5 and 9, what is left", y.men(3, 2), 10);
        A.due("left", y.bargain(2, 4), 37);
        A.due("paid", y.bargain(0, 4) + y.bargain(1, 4) + y.bargain(3, 4), 0);
        A.due("the dead man owes", y.men(1, 3), 37);
        A.due("a dead man's purse", y.pay(2, 1), 0);
        A.due("a surety of it", y.surety(2, 4), 1);
        y.clock(10);
        A.due("called", y.call(2), 20);
        A.due("claim on the dead", y.claim(2, 0, 5), 0);
    }

    private static void dieOwingHimself() {
        MerchantYard y = new MerchantYard();
        y.man(1, false, 0);
        y.man(1, false, 50);
        y.man(2, false, 0);
        y.man(3, false, 20);
        y.man(4, false, 20);
        y.bring(0, 0, 10);
        y.bring(2, 0, 10);
        y.deal(0, 1, 0, 1, 40, 3, 0);
        y.deal(2, 1, 1, 1, 70, 4, 0);
        y.surety(1, 3);
        y.surety(1, 4);
        y.die(0);
        A.due("he owes himself", y.bargain(0, 9), 1);
        A.due("and all", y.men(1, 3), 110);
        y.clock(5);
        y.deal(1, 2, 0, 1, 0, 0, 0);
        A.due("called", y.call(1), 70);
        A.due("claims", y.sureties(1, 0, 1) * 100 + y.sureties(1, 1, 1), 1010);
        y.deal(1, 2, 2, 1, 15, 0, 0);
        A.due("purse", y.men(1, 2), 15);
        A.due("pays himself", y.pay(0, 5), 5);
        A.due("and has it still", y.men(1, 2), 15);
        A.due("owed", y.bargain(0, 4), 35);
        // 15 to himself, back; then 10 to the first surety, 5 to the second
        A.due("dies", y.die(1), -1);
        A.due("his debt to himself", y.bargain(0, 4), 20);
        A.due("first claim", y.sureties(1, 0, 1), 0);
        A.due("second claim", y.sureties(1, 1, 1), 5);
        A.due("purses", y.men(3, 2) * 100 + y.men(4, 2), 2015);
        A.due("nothing for the chest", y.chest(1), 0);
        A.due("lots are nothing", y.lot(0, 1), 0);
    }

    private static void dieAsSurety() {
        MerchantYard y = new MerchantYard();
        y.man(0, false, 0);
        y.man(1, false, 0);
        y.man(2, false, 30);
        y.man(3, false, 50);
        y.man(2, false, 5);
        y.bring(0, 0, 10);
        y.deal(0, 1, 0, 1, 60, 3, 0);
        y.surety(0, 2);
        y.surety(0, 3);
        y.clock(4);
        y.call(0);
        A.due("claim", y.sureties(0, 0, 1), 30);
        A.due("heir", y.die(2), 4);
        A.due("the surety stays", y.sureties(0, 0, 0), 2);
        A.due("owed to the heir", y.sureties(0, 0, 2), 4);
        y.man(5, false, 90);
        y.bring(1, 0, 10);
        y.deal(1, 5, 2, 1, 90, 0, 0);
        A.due("paid", y.claim(0, 0, 10), 10);
        A.due("to the heir", y.men(4, 2), 15);
        A.due("no heir", y.die(3), -1);
        A.due("owed to nobody", y.sureties(0, 1, 2), -1);
        A.due("paid", y.claim(0, 1, 7), 7);
        A.due("to the chest of his town", y.chest(3), 27);
        A.due("the buyer dies", y.die(1), -1);
        A.due("the rest to the heir", y.men(4, 2), 35);
        A.due("the rest to the chest", y.chest(3), 50);
        A.due("and his own", y.chest(1), 30);
        A.due("coins of all", y.count(13), 175);
    }
}
