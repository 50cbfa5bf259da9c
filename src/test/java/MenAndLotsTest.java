/** Promises 1 to 4 and 6 to 8: a new object, clock, man, leave, bring, lot, men. */
public final class MenAndLotsTest {
    private static final Answers A = new Answers("MenAndLotsTest");

    public static void main(String[] args) {
        newObject();
        clock();
        man();
        leave();
        bring();
        lot();
        men();
        A.end();
    }

    private static void newObject() {
        MerchantYard y = new MerchantYard();
        A.due("NONE", MerchantYard.NONE, -1);
        for (int what = 0; what <= 13; what++) {
            A.due("count of a new object " + what, y.count(what), 0);
        }
        A.due("men(0, 0)", y.men(0, 0), -1);
        A.due("laws(0, 0)", y.laws(0, 0), -1);
        A.due("lot(0, 0)", y.lot(0, 0), -1);
        A.due("bargain(0, 0)", y.bargain(0, 0), -1);
        A.due("told(0)", y.told(0), -1);
        A.due("told(1)", y.told(1), -1);
        A.due("high()", y.high(), -1);
        A.due("planned(-1, 0)", y.planned(-1, 0), -1);
        A.due("joined(-1)", y.joined(-1), -1);
        A.due("holds(0)", y.holds(0), -1);
        A.due("elder(0)", y.elder(0), -1);
        for (int town = 0; town <= 9; town++) {
            A.due("chest(" + town + ")", y.chest(town), 0);
        }
        MerchantYard other = new MerchantYard();
        y.man(0, false, 5);
        A.due("another object has no men", other.count(1), 0);
    }

    private static void clock() {
        MerchantYard y = new MerchantYard();
        A.yes("its own day", y.clock(0));
        A.no("below 0", y.clock(-1));
        A.yes("a later day", y.clock(7));
        A.no("an earlier day", y.clock(6));
        A.due("NOW", y.count(0), 7);
        A.yes("its own day again", y.clock(7));
        A.no("no day", y.clock(4000));
        A.no("no day", y.clock(Integer.MAX_VALUE));
        A.no("no day", y.clock(Integer.MIN_VALUE));
        A.due("NOW", y.count(0), 7);
        A.yes("the last day", y.clock(3999));
        A.due("NOW", y.count(0), 3999);
    }

    private static void man() {
        MerchantYard y = new MerchantYard();
        A.due("town 7", y.man(7, true, 0), 0);
        A.due("local", y.man(8, false, 1000000), 1);
        A.due("town 9", y.man(9, false, 0), -1);
        A.due("town -1", y.man(-1, false, 0), -1);
        A.due("coins -1", y.man(0, false, -1), -1);
        A.due("coins 1000001", y.man(0, false, 1000001), -1);
        for (int k = 2; k < 40; k++) {
            A.due("man " + k, y.man(k % 9, k % 2 == 0, k), k);
        }
        A.due("a 41st", y.man(0, false, 0), -1);
        y.leave(3);
        A.due("a 41st behind one that left", y.man(0, false, 0), -1);
        A.due("count", y.count(1), 40);
    }

    private static void leave() {
        MerchantYard y = new MerchantYard();
        y.man(0, false, 10);
        A.no("no such man", y.leave(1));
        A.no("no such man", y.leave(-1));
        y.clock(5);
        A.yes("he leaves", y.leave(0));
        A.due("there no more", y.men(0, 1), 0);
        A.due("from that day on", y.men(0, 7), 5);
        y.clock(6);
        A.no("he left already", y.leave(0));
        A.due("from the first leaving on", y.men(0, 7), 5);
        A.due("his purse is still his", y.men(0, 2), 10);
        A.due("he dies no more", y.die(0), -2);
        A.due("he brings no more", y.bring(0, 0, 1), -1);
    }

    private static void bring() {
        MerchantYard y = new MerchantYard();
        y.man(0, false, 0);
        A.due("a lot", y.bring(0, 7, 100000), 0);
        A.due("kind -1", y.bring(0, -1, 1), -1);
        A.due("kind 8", y.bring(0, 8, 1), -1);
        A.due("amount 0", y.bring(0, 0, 0), -1);
        A.due("amount 100001", y.bring(0, 0, 100001), -1);
        A.due("man -1", y.bring(-1, 0, 1), -1);
        A.due("man 1", y.bring(1, 0, 1), -1);
        for (int k = 1; k < 200; k++) {
            A.due("lot " + k, y.bring(0, k % 8, 1), k);
        }
        A.due("a 201st", y.bring(0, 0, 1), -1);
        A.due("count", y.count(2), 200);
    }

    private static void lot() {
        MerchantYard y = new MerchantYard();
        y.man(0, false, 0);
        y.man(1, false, 100);
        y.bring(0, 3, 50);
        y.deal(0, 1, 0, 20, 10, 0, 0);
        int[] old = {3, 30, 0, -1, 50, -1};
        int[] split = {3, 20, 1, 0, 20, -1};
        for (int what = 0; what <= 5; what++) {
            A.due("lot(0, " + what + ")", y.lot(0, what), old[what]);
            A.due("lot(1, " + what + ")", y.lot(1, what), split[what]);
            A.due("lot(2, " + what + ")", y.lot(2, what), -1);
            A.due("lot(-1, " + what + ")", y.lot(-1, what), -1);
        }
        A.due("lot(0, -1)", y.lot(0, -1), -1);
        y.deal(0, 1, 0, 30, 10, 0, 0);
        A.due("a lot sold whole keeps its man", y.lot(0, 2), 0);
        A.due("a lot sold whole has nothing", y.lot(0, 1), 0);
        A.due("a lot sold whole keeps what came", y.lot(0, 4), 50);
    }

    private static void men() {
        MerchantYard y = new MerchantYard();
        y.clock(9);
        y.man(3, true, 77);
        int[] due = {3, 1, 77, 0, 0, 1, 9, -1, -1};
        for (int what = 0; what <= 8; what++) {
            A.due("men(0, " + what + ")", y.men(0, what), due[what]);
            A.due("men(1, " + what + ")", y.men(1, what), -1);
            A.due("men(-1, " + what + ")", y.men(-1, what), -1);
        }
        A.due("men(0, -1)", y.men(0, -1), -1);
        y.man(8, false, 500);
        A.due("no winterer", y.men(1, 5), 0);
        y.bring(0, 0, 10);
        y.deal(0, 1, 0, 1, 100, 5, 0);
        y.deal(0, 1, 0, 1, 30, 6, 0);
        A.due("owes", y.men(1, 3), 130);
        A.due("late", y.men(1, 4), 0);
        y.clock(14);
        A.due("not late on the day", y.men(1, 4), 0);
        y.clock(15);
        A.due("late behind the day", y.men(1, 4), 100);
        y.clock(16);
        A.due("late, both", y.men(1, 4), 130);
        A.due("owes, both", y.men(1, 3), 130);
        A.due("the seller owes nothing", y.men(0, 3), 0);
    }
}
