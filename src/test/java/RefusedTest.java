/** Every call that the document refuses, of promises 2 to 49: its answer, and that it leaves all as it was. */
public final class RefusedTest {
    private static final Answers A = new Answers("RefusedTest");
    private static final int MIN = Integer.MIN_VALUE;
    private static final int MAX = Integer.MAX_VALUE;

    private static Refusals house;

    public static void main(String[] args) {
        house = new Refusals(A, RefusedTest::busyHouse);
        daysAndMen();
        lots();
        tapeAndLaws();
        verdicts();
        ports();
        deals();
        sureties();
        coins();
        measures();
        elders();
        ships();
        plans();
        hands();
        books();
        rowsWithoutTheAsked();
        fullHouses();
        A.end();
    }

    private static void refused(String what, Refusals.Call call, long want) {
        house.due(what, call, want);
    }

    private static long bit(boolean yes) {
        return yes ? 1 : 0;
    }

    /** On day 10: eight men of whom 4 left and 5 died, bargains paid, called, owed and on the way, and something of all else. */
    private static MerchantYard busyHouse() {
        MerchantYard y = new MerchantYard();
        int[] towns = {0, 8, 1, 2, 0, 3, 4, 0};
        int[] purses = {1000, 400, 50, 300, 20, 70, 100, 1};
        for (int k = 0; k < 8; k++) {
            y.man(towns[k], k == 0, purses[k]);
        }
        y.bring(0, 2, 100);
        y.bring(1, 3, 50);
        y.bring(5, 4, 9);
        y.bring(4, 4, 7);
        y.deal(0, 1, 0, 10, 100, 0, 9);
        y.deal(0, 1, 0, 10, 900, 5, 9);
        y.surety(1, 2);
        y.surety(1, 3);
        y.deal(1, 0, 1, 5, 60, 400, 9);
        y.surety(2, 2);
        y.deal(5, 1, 2, 3, 10, 20, 0);
        y.deal(0, 1, 0, 2, 15, 9, 0);
        y.surety(4, 2);
        y.surety(4, 3);
        y.surety(4, 7);
        Answers.law(y, 0, 0, "bar if amount = 77; fine 3 if price = 10");
        Answers.law(y, 1, 0, "fine 5 if kind = 3");
        Answers.law(y, 1, 12, "bar if kind = 3");
        Answers.law(y, 2, 0, "let if amount = 77");
        Answers.law(y, 2, 0, "bar if 1 = 1");
        y.order(3, 0x210, 4);
        y.weigh(0, 100, 50);
        y.weigh(0, 100, 60);
        y.weigh(1, 10, 10);
        y.weigh(2, 10, 10);
        y.ship(1, 5, 10, 40);
        y.ship(2, 12, 8, 1000);
        y.ship(1, 13, 7, 1000);
        y.shut(1, 15, 22);
        y.shut(2, 20, 20);
        y.news(1, 2, 7, 9);
        y.news(8, 2, 3, 4);
        y.sail(0, 0);
        y.sail(1, 1);
        y.clock(10);
        y.leave(4);
        y.die(5);
        y.pay(4, 3);
        y.call(1);
        y.read(3);
        y.readShut(0);
        y.takeBack(2);
        y.plan(0);
        y.hand(0, 5, 9, 2);
        y.hand(1, 5, 9, 2);
        y.breakers(2);
        y.entry(0, 3, 4, 100);
        y.entry(0, 4, 1, 90);
        y.entry(1, 4, 4, 103);
        y.join(5, 5);
        y.verdict(0, 1, 0, 1, 10, 0, 0);
        Answers.write(y, "fine 7 if amount = 1");
        return y;
    }

    private static void daysAndMen() {
        for (int day : new int[] {9, 0, -1, 4000, MIN, MAX}) {
            refused("clock(" + day + ")", y -> bit(y.clock(day)), 0);
        }
        for (int town : new int[] {-1, 9, MIN, MAX}) {
            refused("man of town " + town, y -> y.man(town, true, 5), -1);
        }
        for (int coins : new int[] {-1, 1000001, MIN, MAX}) {
            refused("man with " + coins, y -> y.man(0, true, coins), -1);
        }
        for (int man : new int[] {-1, 4, 5, 8, MIN, MAX}) {
            refused("leave(" + man + ")", y -> bit(y.leave(man)), 0);
            refused("die(" + man + ")", y -> y.die(man), -2);
            refused("bring() of " + man, y -> y.bring(man, 0, 1), -1);
            refused("plan(" + man + ")", y -> y.plan(man), -1);
            refused("sail() of " + man, y -> y.sail(man, 2), -1);
            refused("surety " + man, y -> y.surety(2, man), -1);
            refused("deal by " + man, y -> y.deal(man, 1, 0, 1, 1, 0, 0), 1);
            refused("deal to " + man, y -> y.deal(0, man, 0, 1, 1, 0, 0), 1);
            refused("verdict by " + man, y -> y.verdict(man, 1, 0, 1, 1, 0, 0), -1);
            refused("verdict to " + man, y -> y.verdict(0, man, 0, 1, 1, 0, 0), -1);
        }
    }

    private static void lots() {
        for (int kind : new int[] {-1, 8, MIN, MAX}) {
            refused("bring() of kind " + kind, y -> y.bring(0, kind, 1), -1);
        }
        for (int amount : new int[] {0, -1, 100001, MIN, MAX}) {
            refused("bring() of " + amount, y -> y.bring(0, 0, amount), -1);
        }
    }

    private static void tapeAndLaws() {
        for (int n : new int[] {-1, 21, 400, MIN, MAX}) {
            refused("end(" + n + ")", y -> y.end(n), -1);
        }
        for (int rank : new int[] {-1, 3, MIN, MAX}) {
            refused("law of rank " + rank, y -> y.law(rank, 10), -1);
            refused("force of rank " + rank, y -> y.force(rank, 10), -1);
        }
        for (int day : new int[] {9, 0, -1, 4000, MIN, MAX}) {
            refused("treaty from " + day, y -> y.law(1, day), -1);
        }
        for (int law : new int[] {-1, 0, 1, 2, 3, 5, MIN, MAX}) {
            refused("read(" + law + ")", y -> bit(y.read(law)), 0);
        }
        for (int day : new int[] {-1, 4000, MIN, MAX}) {
            refused("force on " + day, y -> y.force(0, day), -1);
        }
    }

    /** None of these comes to THE VERDICT, so told() stays as well. */
    private static void verdicts() {
        refused("both one", y -> y.verdict(0, 0, 0, 1, 1, 0, 0), -1);
        for (int lot : new int[] {-1, 1, 2, 9, MIN, MAX}) {
            refused("verdict of lot " + lot, y -> y.verdict(0, 1, lot, 1, 1, 0, 0), -1);
        }
        for (int amount : new int[] {-1, 0, 79, MIN, MAX}) {
            refused("verdict of amount " + amount, y -> y.verdict(0, 1, 0, amount, 1, 0, 0), -1);
        }
        for (int price : new int[] {-1, 1000001, MIN, MAX}) {
            refused("verdict of price " + price, y -> y.verdict(0, 1, 0, 1, price, 0, 0), -1);
        }
        for (int credit : new int[] {-1, 721, MIN, MAX}) {
            refused("verdict of credit " + credit, y -> y.verdict(0, 1, 0, 1, 1, credit, 0), -1);
        }
        for (int hour : new int[] {-1, 24, MIN, MAX}) {
            refused("verdict of hour " + hour, y -> y.verdict(0, 1, 0, 1, 1, 0, hour), -1);
        }
    }

    private static void ports() {
        for (int town : new int[] {-1, 8, MIN, MAX}) {
            refused("port shut of " + town, y -> y.shut(town, 0, 1), -1);
            refused("is shut of " + town, y -> y.isShut(town, 15, 10), -1);
        }
        int[][] days = {{-1, 5}, {5, 4000}, {6, 5}, {MIN, 5}, {5, MAX}, {3999, 0}};
        for (int[] pair : days) {
            refused("port shut from " + pair[0] + " to " + pair[1], y -> y.shut(0, pair[0], pair[1]), -1);
        }
        for (int day : new int[] {-1, 4000, MIN, MAX}) {
            refused("is shut on " + day, y -> y.isShut(1, day, 10), -1);
            refused("is shut by " + day, y -> y.isShut(1, 15, day), -1);
        }
        for (int k : new int[] {-1, 0, 2, MIN, MAX}) {
            refused("readShut(" + k + ")", y -> bit(y.readShut(k)), 0);
        }
    }

    /** Those that are told 1 to 3 leave told() too; 5 and 6 come to THE VERDICT, so they are left to BoundsOfDealsTest. */
    private static void deals() {
        refused("both one", y -> y.deal(0, 0, 0, 1, 1, 0, 0), 1);
        for (int lot : new int[] {-1, 1, 2, 9, MIN, MAX}) {
            refused("deal of lot " + lot, y -> y.deal(0, 1, lot, 1, 1, 0, 0), 2);
        }
        for (int amount : new int[] {-1, 0, 79, MIN, MAX}) {
            refused("deal of amount " + amount, y -> y.deal(0, 1, 0, amount, 1, 0, 0), 2);
        }
        for (int price : new int[] {-1, 1000001, MIN, MAX}) {
            refused("deal of price " + price, y -> y.deal(0, 1, 0, 1, price, 0, 0), 3);
        }
        for (int credit : new int[] {-1, 721, MIN, MAX}) {
            refused("deal of credit " + credit, y -> y.deal(0, 1, 0, 1, 1, credit, 0), 3);
        }
        for (int hour : new int[] {-1, 24, MIN, MAX}) {
            refused("deal of hour " + hour, y -> y.deal(0, 1, 0, 1, 1, 0, hour), 3);
        }
    }

    private static void sureties() {
        for (int bargain : new int[] {-1, 5, MIN, MAX}) {
            refused("surety of bargain " + bargain, y -> y.surety(bargain, 6), -1);
        }
        refused("nothing owed", y -> y.surety(0, 6), -1);
        refused("a fourth", y -> y.surety(4, 6), -1);
        refused("the seller", y -> y.surety(2, 1), -1);
        refused("the buyer", y -> y.surety(2, 0), -1);
        refused("a surety of it", y -> y.surety(2, 2), -1);
    }

    private static void coins() {
        for (int bargain : new int[] {-1, 0, 5, MIN, MAX}) {
            refused("pay of bargain " + bargain, y -> y.pay(bargain, 1), -1);
            refused("call of bargain " + bargain, y -> y.call(bargain), -1);
            refused("claim of bargain " + bargain, y -> y.claim(bargain, 0, 1), -1);
        }
        for (int coins : new int[] {0, -1, MIN}) {
            refused("pay of " + coins, y -> y.pay(4, coins), -1);
            refused("claim of " + coins, y -> y.claim(1, 0, coins), -1);
        }
        refused("call ahead of its day", y -> y.call(2), -1);
        for (int i : new int[] {-1, 2, MIN, MAX}) {
            refused("claim of surety " + i, y -> y.claim(1, i, 1), -1);
        }
        refused("nothing claimed", y -> y.claim(4, 0, 1), -1);
        refused("nothing in the purse to pay", y -> y.pay(1, 1), 0);
        refused("nothing in the purse for a claim", y -> y.claim(1, 0, 1), 0);
    }

    private static void measures() {
        for (int kind : new int[] {-1, 8, MIN, MAX}) {
            refused("weighing of kind " + kind, y -> y.weigh(kind, 5, 5), -1);
            refused("span of kind " + kind, y -> y.span(kind, 0, 1), -1);
            refused("theirs of kind " + kind, y -> y.theirs(kind, 1, 0, 0), -1);
        }
        for (int ours : new int[] {1, 0, -1, 100001, MIN, MAX}) {
            refused("weighing of ours " + ours, y -> y.weigh(0, ours, 5), -1);
        }
        for (int theirs : new int[] {0, -1, 100001, MIN, MAX}) {
            refused("weighing of theirs " + theirs, y -> y.weigh(0, 5, theirs), -1);
        }
        for (int k : new int[] {-1, 2, 4, MIN, MAX}) {
            refused("takeBack(" + k + ")", y -> bit(y.takeBack(k)), 0);
        }
        for (int day : new int[] {-1, 4000, MIN, MAX}) {
            refused("span on " + day, y -> y.span(1, day, 1), -1);
            refused("theirs on " + day, y -> y.theirs(1, 5, day, 0), -1);
        }
        for (int ours : new int[] {-1, 1000001, MIN, MAX}) {
            refused("theirs of " + ours, y -> y.theirs(1, ours, 0, 0), -1);
        }
    }

    private static void elders() {
        for (int n : new int[] {0, -1, 9, MIN, MAX}) {
            refused("order of " + n, y -> bit(y.order(n, 0x876543210L, 10)), 0);
        }
        for (int days : new int[] {0, -1, 401, MIN, MAX}) {
            refused("terms of " + days, y -> bit(y.order(2, 0x10, days)), 0);
        }
        for (long towns : new long[] {0x80, 0x18, 0xf0, 0x11, 0x66}) {
            refused("order " + Long.toHexString(towns), y -> bit(y.order(2, towns, 10)), 0);
        }
        for (int day : new int[] {-1, 4000, MIN, MAX}) {
            refused("elder(" + day + ")", y -> y.elder(day), -1);
        }
    }

    private static void ships() {
        for (int town : new int[] {-1, 8, MIN, MAX}) {
            refused("ship to " + town, y -> y.ship(town, 10, 1, 1), -1);
        }
        for (int day : new int[] {9, -1, 4000, MIN, MAX}) {
            refused("ship on " + day, y -> y.ship(0, day, 1, 1), -1);
        }
        for (int days : new int[] {0, -1, 100, MIN, MAX}) {
            refused("ship of " + days + " days", y -> y.ship(0, 10, days, 1), -1);
        }
        for (int room : new int[] {0, -1, 1000001, MIN, MAX}) {
            refused("ship with room " + room, y -> y.ship(0, 10, 1, room), -1);
        }
        for (int town : new int[] {-1, 9, MIN, MAX}) {
            refused("news of " + town, y -> y.news(town, 0, 1, 2), -1);
            refused("price of " + town, y -> y.price(town, 0, 0, 0), -1);
        }
        for (int kind : new int[] {-1, 8, MIN, MAX}) {
            refused("news of kind " + kind, y -> y.news(0, kind, 1, 2), -1);
            refused("price of kind " + kind, y -> y.price(0, kind, 0, 0), -1);
        }
        int[][] prices = {{-1, 5}, {5, 10000}, {6, 5}, {MIN, 5}, {5, MAX}, {10000, 10000}};
        for (int[] pair : prices) {
            refused("news from " + pair[0] + " to " + pair[1], y -> y.news(0, 0, pair[0], pair[1]), -1);
        }
        for (int day : new int[] {-1, 4000, MIN, MAX}) {
            refused("price on " + day, y -> y.price(8, 2, day, 0), -1);
        }
        for (int ship : new int[] {-1, 0, 3, MIN, MAX}) {
            refused("sail by " + ship, y -> y.sail(6, ship), -1);
        }
        refused("sail again by a ship", y -> y.sail(1, 1), -1);
        for (int man : new int[] {-1, 8, MIN, MAX}) {
            refused("broke(" + man + ")", y -> y.broke(man), -1);
        }
    }

    private static void plans() {
        for (int k : new int[] {-2, 2, 5, MIN, MAX}) {
            refused("planned(" + k + ", 0)", y -> y.planned(k, 0), -1);
        }
        for (int what : new int[] {-1, 2, MIN, MAX}) {
            refused("planned(0, " + what + ")", y -> y.planned(0, what), -1);
            refused("planned(-1, " + what + ")", y -> y.planned(-1, what), -1);
        }
    }

    private static void hands() {
        for (int k : new int[] {-1, 3, 8, MIN, MAX}) {
            refused("hand " + k, y -> bit(y.hand(k, 1, 1, 1)), 0);
        }
        for (int coins : new int[] {-1, 10000, MIN, MAX}) {
            refused("gain " + coins, y -> bit(y.hand(0, coins, 1, 1)), 0);
            refused("fine " + coins, y -> bit(y.hand(0, 1, coins, 1)), 0);
        }
        for (int crowd : new int[] {0, -1, 9, MIN, MAX}) {
            refused("crowd " + crowd, y -> bit(y.hand(2, 1, 1, crowd)), 0);
        }
        for (int n : new int[] {0, -1, 3, 8, 9, MIN, MAX}) {
            refused("breakers(" + n + ")", y -> y.breakers(n), -1);
        }
        for (int k : new int[] {-1, 2, MIN, MAX}) {
            refused("holds(" + k + ")", y -> y.holds(k), -1);
        }
    }

    private static void books() {
        for (int book : new int[] {-1, 2, MIN, MAX}) {
            refused("entry of book " + book, y -> y.entry(book, 0, 0, 0), -1);
        }
        for (int day : new int[] {-1, 4000, MIN, MAX}) {
            refused("entry on " + day, y -> y.entry(0, day, 0, 0), -1);
        }
        for (int man : new int[] {-1, 8, MIN, MAX}) {
            refused("entry of man " + man, y -> y.entry(1, 0, man, 0), -1);
        }
        for (int coins : new int[] {-1, 1000001, MIN, MAX}) {
            refused("entry of " + coins, y -> y.entry(1, 0, 0, coins), -1);
        }
        for (int within : new int[] {-1, 1001, MIN, MAX}) {
            refused("join within coins " + within, y -> y.join(within, 5), -1);
            refused("join within days " + within, y -> y.join(5, within), -1);
        }
        for (int k : new int[] {-3, 2, MIN, MAX}) {
            refused("joined(" + k + ")", y -> y.joined(k), -1);
        }
    }

    /** NONE without the asked, or for another what. */
    private static void rowsWithoutTheAsked() {
        for (int k : new int[] {-1, 9, MIN, MAX}) {
            refused("lot(" + k + ", 0)", y -> y.lot(k, 0), -1);
            refused("men(" + k + ", 0)", y -> y.men(k, 0), -1);
            refused("laws(" + k + ", 0)", y -> y.laws(k, 0), -1);
            refused("bargain(" + k + ", 0)", y -> y.bargain(k, 0), -1);
            refused("sureties(" + k + ", 0, 0)", y -> y.sureties(k, 0, 0), -1);
            refused("sureties(1, " + k + ", 0)", y -> y.sureties(1, k, 0), -1);
        }
        int[][] behind = {{-1, 5, 8, 4, 2, 10, 3, 6, 2, 2, 14}, {MIN, MAX, MIN, MAX, MIN, MAX, MIN, MAX, MIN, MAX, MIN},
            {MAX, MIN, -1, -1, -1, -1, -1, -1, -1, -1, -1}};
        for (int[] what : behind) {
            refused("lot(0, " + what[1] + ")", y -> y.lot(0, what[1]), -1);
            refused("men(0, " + what[2] + ")", y -> y.men(0, what[2]), -1);
            refused("laws(0, " + what[3] + ")", y -> y.laws(0, what[3]), -1);
            refused("told(" + what[4] + ")", y -> y.told(what[4]), -1);
            refused("bargain(0, " + what[5] + ")", y -> y.bargain(0, what[5]), -1);
            refused("sureties(1, 0, " + what[6] + ")", y -> y.sureties(1, 0, what[6]), -1);
            refused("span(0, 0, " + what[7] + ")", y -> y.span(0, 0, what[7]), -1);
            refused("theirs(1, 1, 0, " + what[8] + ")", y -> y.theirs(1, 1, 0, what[8]), -1);
            refused("price(8, 2, 0, " + what[9] + ")", y -> y.price(8, 2, 0, what[9]), -1);
            refused("count(" + what[10] + ")", y -> y.count(what[10]), -1);
        }
        for (int town : new int[] {-1, 10, MIN, MAX}) {
            refused("chest(" + town + ")", y -> y.chest(town), -1);
        }
    }

    // ---- one more than there may be

    private interface Row {
        void add(MerchantYard yard, int k);
    }

    private static Refusals.Scene full(int rows, Row row) {
        return () -> {
            MerchantYard y = new MerchantYard();
            y.man(0, false, 100);
            y.man(1, true, 100);
            for (int k = 0; k < rows; k++) {
                row.add(y, k);
            }
            return y;
        };
    }

    private static void fullHouses() {
        house = new Refusals(A, full(38, (y, k) -> y.man(k % 9, false, k)));
        refused("a 41st man", y -> y.man(0, false, 7), -1);
        house = new Refusals(A, full(200, (y, k) -> y.bring(k % 2, k % 8, 2)));
        refused("a 201st lot", y -> y.bring(0, 0, 1), -1);
        refused("a deal of 200 lots", y -> y.deal(0, 1, 0, 1, 0, 0, 0), 4);
        house = new Refusals(A, full(20, (y, k) -> y.feed(0x66696e65, 0x20372069, 0x6620313d, 0x31202020, 0x20202020 - 512 * k)));
        refused("a 21st feed", y -> y.feed(1, 2, 3, 4, 5), -1);
        house = new Refusals(A, full(30, (y, k) -> Answers.law(y, k % 3, 0, "fine " + k + " if kind = 0")));
        refused("a 31st law, of an empty tape", y -> y.law(0, 0), -1);
        house = new Refusals(A, full(31, RefusedTest::lawsAndOneMore));
        refused("a 31st law", y -> y.law(0, 0), -1);
        house = new Refusals(A, full(20, (y, k) -> y.shut(k % 8, k, k)));
        refused("a 21st port shut", y -> y.shut(0, 0, 0), -1);
        house = new Refusals(A, full(100, (y, k) -> y.weigh(k % 8, 10 + k, 10 + k)));
        refused("a 101st weighing", y -> y.weigh(0, 9, 9), -1);
        house = new Refusals(A, full(20, (y, k) -> y.ship(k % 8, k, 1, 1)));
        refused("a 21st ship", y -> y.ship(0, 0, 1, 1), -1);
        house = new Refusals(A, full(200, (y, k) -> y.news(k % 9, k % 8, k, k)));
        refused("the 201st news", y -> y.news(8, 0, 1, 1), -1);
        house = new Refusals(A, full(8, (y, k) -> y.hand(k, 5, 7, 3)));
        refused("a ninth hand", y -> bit(y.hand(8, 1, 1, 1)), 0);
        refused("nine breakers", y -> y.breakers(9), -1);
        house = new Refusals(A, full(21, (y, k) -> join(y, k)));
        refused("an eleventh of ours", y -> y.entry(0, 0, 0, 0), -1);
        refused("an eleventh of home's", y -> y.entry(1, 0, 0, 0), -1);
    }

    /** Thirty laws, and the text of another one that stays on the tape. */
    private static void lawsAndOneMore(MerchantYard y, int k) {
        Answers.write(y, "bar if 1 = 1");
        if (k < 30) {
            y.law(k % 3, 0);
        }
    }

    /** Ten entries of each, and then the join that a refused entry leaves. */
    private static void join(MerchantYard y, int k) {
        if (k < 20) {
            y.entry(k % 2, k, 0, k);
        } else {
            y.join(3, 3);
        }
    }
}
