/** Promises 34 to 41: ships, news, prices, the plan, who sails. */
public final class ShipsTest {
    private static final Answers A = new Answers("ShipsTest");

    public static void main(String[] args) {
        ship();
        newsAndPrice();
        planAnswers();
        planBest();
        planTies();
        planRoom();
        planShips();
        planLots();
        sail();
        A.end();
    }

    private static void ship() {
        MerchantYard y = new MerchantYard();
        y.clock(5);
        A.due("town -1", y.ship(-1, 5, 1, 1), -1);
        A.due("town 8", y.ship(8, 5, 1, 1), -1);
        A.due("a day ahead of NOW", y.ship(0, 4, 1, 1), -1);
        A.due("no day", y.ship(0, 4000, 1, 1), -1);
        A.due("0 days", y.ship(0, 5, 0, 1), -1);
        A.due("100 days", y.ship(0, 5, 100, 1), -1);
        A.due("room 0", y.ship(0, 5, 1, 0), -1);
        A.due("room 1000001", y.ship(0, 5, 1, 1000001), -1);
        A.due("NOW", y.ship(0, 5, 1, 1), 0);
        A.due("the last day", y.ship(7, 3999, 99, 1000000), 1);
        for (int k = 2; k < 20; k++) {
            A.due("ship " + k, y.ship(0, 10, 1, 1), k);
        }
        A.due("a 21st", y.ship(0, 10, 1, 1), -1);
        A.due("count", y.count(6), 20);
    }

    private static void newsAndPrice() {
        MerchantYard y = new MerchantYard();
        A.due("without", y.price(0, 0, 0, 0), 0);
        A.due("without", y.price(8, 7, 3999, 1), 0);
        A.due("news", y.news(0, 0, 5, 9), 1);
        A.due("town -1", y.news(-1, 0, 5, 9), -1);
        A.due("town 9", y.news(9, 0, 5, 9), -1);
        A.due("kind -1", y.news(0, -1, 5, 9), -1);
        A.due("kind 8", y.news(0, 8, 5, 9), -1);
        A.due("low -1", y.news(0, 0, -1, 9), -1);
        A.due("high 10000", y.news(0, 0, 5, 10000), -1);
        A.due("low above high", y.news(0, 0, 6, 5), -1);
        A.due("0 to 0", y.news(8, 7, 0, 0), 2);
        A.due("9999 to 9999", y.news(8, 7, 9999, 9999), 3);
        y.clock(4);
        A.due("later", y.news(0, 0, 1, 2), 4);
        A.due("the same day", y.news(0, 0, 3, 4), 5);
        A.due("low as known on 3", y.price(0, 0, 3, 0), 5);
        A.due("high as known on 3", y.price(0, 0, 3, 1), 9);
        A.due("low as known on 4", y.price(0, 0, 4, 0), 3);
        A.due("high as known on 3999", y.price(0, 0, 3999, 1), 4);
        A.due("here", y.price(8, 7, 0, 0), 9999);
        A.due("another kind", y.price(0, 1, 4, 0), 0);
        A.due("another town", y.price(1, 0, 4, 0), 0);
        A.due("what 2", y.price(0, 0, 0, 2), -1);
        A.due("what -1", y.price(0, 0, 0, -1), -1);
        A.due("town 9", y.price(9, 0, 0, 0), -1);
        A.due("town -1", y.price(-1, 0, 0, 0), -1);
        A.due("kind 8", y.price(0, 8, 0, 0), -1);
        A.due("kind -1", y.price(0, -1, 0, 0), -1);
        A.due("day -1", y.price(0, 0, -1, 0), -1);
        A.due("day 4000", y.price(0, 0, 4000, 0), -1);
        for (int k = 6; k <= 200; k++) {
            A.due("news " + k, y.news(1, 1, k, k), k);
        }
        A.due("a 201st", y.news(1, 1, 0, 0), -1);
        A.due("count", y.count(7), 200);
        A.due("the last one told", y.price(1, 1, 4, 0), 200);
    }

    private static void planned(MerchantYard y, String what, long high, int... lotsAndShips) {
        A.due(what + ": high", y.high(), high);
        A.due(what + ": lots", y.planned(-1, 0), lotsAndShips.length / 2);
        for (int k = 0; k < lotsAndShips.length / 2; k++) {
            A.due(what + ": lot " + k, y.planned(k, 0), lotsAndShips[2 * k]);
            A.due(what + ": ship " + k, y.planned(k, 1), lotsAndShips[2 * k + 1]);
        }
        A.due(what + ": behind the last", y.planned(lotsAndShips.length / 2, 0), -1);
    }

    private static void planAnswers() {
        MerchantYard y = new MerchantYard();
        y.man(0, false, 0);
        A.due("no man", y.plan(1), -1);
        A.due("no man", y.plan(-1), -1);
        A.due("ahead of any", y.high(), -1);
        A.due("no lots", y.plan(0), 0);
        planned(y, "no lots", 0);
        A.due("no ships", y.planned(-1, 1), 0);
        y.bring(0, 3, 10);
        y.news(8, 3, 2, 3);
        A.due("sold here", y.plan(0), 20);
        planned(y, "sold here", 30, 0, -1);
        A.due("what 2", y.planned(0, 2), -1);
        A.due("what -1", y.planned(0, -1), -1);
        A.due("k -1, what 2", y.planned(-1, 2), -1);
        A.due("k -2", y.planned(-2, 0), -1);
        y.man(0, false, 0);
        y.leave(0);
        A.due("he left", y.plan(0), -1);
        planned(y, "the plan before stays", 30, 0, -1);
        A.due("another man", y.plan(1), 0);
        planned(y, "another man", 0);
    }

    private static void planBest() {
        MerchantYard y = new MerchantYard();
        y.man(0, false, 0);
        y.bring(0, 0, 10);
        y.bring(0, 1, 20);
        y.ship(1, 3, 5, 1000);
        y.ship(2, 2, 5, 1000);
        y.news(1, 0, 7, 7);
        y.news(2, 0, 5, 99);
        y.news(1, 1, 4, 6);
        y.news(2, 1, 4, 7);
        y.news(8, 1, 4, 6);
        A.due("lows first, then highs", y.plan(0), 150);
        planned(y, "best", 210, 0, 0, 1, 1);
        A.due("ships", y.planned(-1, 1), 2);
        y.news(2, 0, 7, 8);
        A.due("alike lows, a later way with a greater high", y.plan(0), 150);
        planned(y, "greater high", 220, 0, 1, 1, 1);
        y.news(1, 0, 7, 9);
        A.due("alike lows, an earlier high", y.plan(0), 150);
        planned(y, "earlier high", 230, 0, 0, 1, 1);
        y.news(8, 0, 7, 10);
        A.due("alike lows, the greatest high here", y.plan(0), 150);
        planned(y, "highest here", 240, 0, -1, 1, 1);
        y.news(8, 0, 8, 8);
        A.due("here is best", y.plan(0), 160);
        planned(y, "here", 220, 0, -1, 1, 1);
    }

    private static void planTies() {
        MerchantYard y = new MerchantYard();
        y.man(0, false, 0);
        for (int k = 0; k < 3; k++) {
            y.bring(0, 0, 10);
        }
        y.ship(1, 9, 5, 10);
        y.ship(2, 3, 5, 10);
        y.ship(3, 3, 5, 10);
        A.due("all alike", y.plan(0), 0);
        planned(y, "by days, then numbers", 0, 0, 1, 1, 2, 2, 0);
        y.bring(0, 0, 10);
        A.due("one more", y.plan(0), 0);
        planned(y, "here behind all", 0, 0, 1, 1, 2, 2, 0, 3, -1);
        y.news(8, 0, 1, 1);
        A.due("here for all", y.plan(0), 40);
        planned(y, "here for all", 40, 0, -1, 1, -1, 2, -1, 3, -1);
    }

    private static void planRoom() {
        MerchantYard y = new MerchantYard();
        y.man(0, false, 0);
        y.bring(0, 0, 6);
        y.bring(0, 0, 5);
        y.bring(0, 0, 5);
        y.ship(1, 3, 5, 10);
        y.news(1, 0, 9, 9);
        A.due("two fives are more than a six", y.plan(0), 90);
        planned(y, "room", 90, 0, -1, 1, 0, 2, 0);
        y.ship(1, 3, 5, 6);
        A.due("and the six by the next", y.plan(0), 144);
        planned(y, "room of two", 144, 0, 1, 1, 0, 2, 0);
        y.man(1, false, 0);
        y.bring(1, 7, 100000);
        for (int k = 0; k < 4; k++) {
            y.bring(1, 7, 100000);
        }
        y.news(8, 7, 9999, 9999);
        A.due("more than 32 bits", y.plan(1), 4999500000L);
        A.due("more than 32 bits", y.high(), 4999500000L);
    }

    private static void planShips() {
        MerchantYard y = new MerchantYard();
        y.man(0, false, 0);
        y.bring(0, 0, 1);
        y.ship(1, 2, 8, 100);
        y.ship(2, 5, 5, 100);
        y.ship(3, 6, 5, 100);
        y.ship(4, 6, 5, 100);
        y.ship(5, 7, 5, 100);
        y.ship(6, 8, 5, 100);
        y.news(6, 0, 99, 99);
        y.news(5, 0, 50, 50);
        A.due("four ships alone", y.plan(0), 0);
        A.due("ships", y.planned(-1, 1), 4);
        y.clock(2);
        A.due("one that leaves today", y.plan(0), 0);
        y.clock(3);
        A.due("one has left", y.plan(0), 50);
        A.due("by", y.planned(0, 1), 4);
        y.shut(2, 10, 10);
        A.due("told, not read", y.plan(0), 50);
        y.readShut(0);
        A.due("shut on the day of coming", y.plan(0), 99);
        A.due("ships", y.planned(-1, 1), 4);
        y.shut(6, 12, 12);
        y.readShut(1);
        A.due("shut on another day", y.plan(0), 99);
        y.shut(6, 13, 20);
        y.readShut(2);
        A.due("shut", y.plan(0), 50);
        A.due("ships", y.planned(-1, 1), 3);
        y.clock(8);
        A.due("none can go", y.plan(0), 0);
        A.due("ships", y.planned(-1, 1), 0);
    }

    private static void planLots() {
        MerchantYard y = new MerchantYard();
        y.man(0, false, 0);
        y.man(1, false, 0);
        for (int k = 0; k < 8; k++) {
            y.bring(k == 1 ? 1 : 0, 0, 1 + k);
        }
        y.deal(0, 1, 2, 3, 0, 0, 0);
        y.news(8, 0, 1, 1);
        // of man 0: lots 0, 3, 4, 5, 6, 7 of 1, 4, 5, 6, 7, 8
        A.due("the first five of some amount", y.plan(0), 23);
        planned(y, "lots", 23, 0, -1, 3, -1, 4, -1, 5, -1, 6, -1);
        A.due("the other's", y.plan(1), 5);
        planned(y, "the other's", 5, 1, -1, 8, -1);
    }

    private static void sail() {
        MerchantYard y = new MerchantYard();
        y.man(0, false, 0);
        y.man(1, false, 0);
        y.ship(3, 5, 10, 1);
        y.ship(4, 5, 10, 1);
        A.due("no man", y.sail(2, 0), -1);
        A.due("no man", y.sail(-1, 0), -1);
        A.due("no ship", y.sail(0, 2), -1);
        A.due("no ship", y.sail(0, -1), -1);
        A.due("open", y.sail(0, 0), 0);
        A.due("by it already", y.sail(0, 0), -1);
        A.due("there behind that", y.men(0, 1), 1);
        y.shut(4, 15, 15);
        A.due("in good faith", y.sail(0, 1), 2);
        A.due("he broke none", y.broke(0), 0);
        y.readShut(0);
        A.due("breaks it", y.sail(1, 1), 1);
        A.due("he broke one", y.broke(1), 1);
        A.due("another port", y.sail(1, 0), 0);
        y.shut(3, 15, 15);
        y.man(5, false, 0);
        A.due("the first ship, in good faith", y.sail(2, 0), 2);
        y.man(5, false, 0);
        y.readShut(1);
        A.due("the first ship, breaks it", y.sail(3, 0), 1);
        y.clock(5);
        A.due("on its day", y.sail(2, 1), 1);
        y.ship(4, 6, 9, 1);
        y.ship(4, 6, 10, 1);
        A.due("the other day's ship", y.sail(2, 3), 0);
        A.due("breaks it twice", y.sail(2, 2), 1);
        A.due("twice", y.broke(2), 2);
        y.shut(4, 15, 20);
        A.due("one read, one told", y.sail(0, 2), 1);
        A.due("one told", y.sail(0, 3), 2);
        A.due("once", y.broke(0), 1);
        y.clock(6);
        A.due("it has left", y.sail(3, 1), -1);
        y.leave(2);
        A.due("he left", y.sail(2, 2), -1);
        A.due("how often, of one who left", y.broke(2), 2);
        A.due("no man", y.broke(4), -1);
        A.due("no man", y.broke(-1), -1);
        y.ship(4, 3999, 99, 1);
        y.shut(4, 0, 3999);
        y.readShut(3);
        A.due("coming behind all days", y.sail(3, 4), 0);
        for (int k = 5; k < 20; k++) {
            y.ship(1, 7, 1, 1);
        }
        for (int k = 4; k < 20; k++) {
            y.shut(1, 3000, 3000);
        }
        A.due("the last ship", y.sail(3, 19), 0);
        A.due("the last ship again", y.sail(3, 19), -1);
    }
}
