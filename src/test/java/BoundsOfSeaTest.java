/** The bounds that promises 34 to 44 and part VI name, a test for each sentence, on both sides of the bound. */
public final class BoundsOfSeaTest {
    private static final Answers A = new Answers("BoundsOfSeaTest");

    public static void main(String[] args) {
        shipsTwenty();
        shipValues();
        newsTwoHundred();
        newsValues();
        priceValues();
        priceOfTheLastOneTold();
        planOfAManThere();
        planFirstFiveLots();
        planFirstFourShips();
        planShipsThatHaveNotLeft();
        planPortsShutOnTheDayOfComing();
        planPortsAsReadByNow();
        planRoomOfAShip();
        planWholeLots();
        planGreatestLows();
        planThenHighs();
        planThenTheFirst();
        planOfLargeSums();
        planPricesKnownNow();
        plannedRows();
        plannedOfTheLatestPlan();
        sailByAShip();
        sailOnceByEach();
        sailByItsDay();
        sailOnTheDayOfComing();
        sailInGoodFaith();
        sailBehindAllDays();
        brokeRows();
        handOneBehindAnother();
        handValues();
        breakersOneToEight();
        breakersNotMore();
        breakersFewerThanTheCrowd();
        breakersOfAllSets();
        holdsRows();
        A.end();
    }

    private static MerchantYard house(int... amounts) {
        MerchantYard y = new MerchantYard();
        y.man(0, false, 100);
        y.man(1, false, 100);
        for (int amount : amounts) {
            y.bring(0, 0, amount);
        }
        return y;
    }

    /** The plan's sums, and the ship of each lot. */
    private static void plan(MerchantYard y, String what, long low, long high, int... ships) {
        A.due(what + ": plan", y.plan(0), low);
        A.due(what + ": high", y.high(), high);
        A.due(what + ": lots", y.planned(-1, 0), ships.length);
        for (int k = 0; k < ships.length; k++) {
            A.due(what + ": ship of " + k, y.planned(k, 1), ships[k]);
        }
    }

    // ---- ships and news

    /** Promise 34: SHIPS 0 to 19. */
    private static void shipsTwenty() {
        MerchantYard y = house(5);
        for (int k = 0; k < 19; k++) {
            y.ship(1, 5, 1, 1);
        }
        A.due("the 20th", y.ship(2, 0, 1, 5), 19);
        A.due("the 21st", y.ship(2, 0, 1, 5), -1);
        A.due("SHIPS", y.count(6), 20);
        plan(y, "the 20th goes first", 0, 0, 19);
        A.due("sail by the 20th", y.sail(0, 19), 0);
        A.due("sail by no 21st", y.sail(0, 20), -1);
    }

    /** Promise 34: to a TOWN, on a DAY (not ahead of NOW), 1 to 99 DAYS, with room of 1 to 1000000. */
    private static void shipValues() {
        MerchantYard y = house(1);
        y.clock(7);
        A.due("town -1", y.ship(-1, 7, 1, 1), -1);
        A.due("town 8", y.ship(8, 7, 1, 1), -1);
        A.due("day 6", y.ship(0, 6, 1, 1), -1);
        A.due("day -1", y.ship(0, -1, 1, 1), -1);
        A.due("day 4000", y.ship(0, 4000, 1, 1), -1);
        A.due("0 days", y.ship(0, 7, 0, 1), -1);
        A.due("100 days", y.ship(0, 7, 100, 1), -1);
        A.due("room 0", y.ship(0, 7, 1, 0), -1);
        A.due("room 1000001", y.ship(0, 7, 1, 1000001), -1);
        A.due("SHIPS", y.count(6), 0);
        A.due("town 0, NOW, 1 day, room 1", y.ship(0, 7, 1, 1), 0);
        A.due("town 7, the last day, 99 days, room 1000000", y.ship(7, 3999, 99, 1000000), 1);
    }

    /** Promise 35: NEWS, 200 at most. */
    private static void newsTwoHundred() {
        MerchantYard y = new MerchantYard();
        for (int k = 1; k < 200; k++) {
            y.news(0, 0, k, k);
        }
        A.due("the 200th", y.news(1, 0, 7, 8), 200);
        A.due("the 201st", y.news(2, 0, 7, 8), -1);
        A.due("NEWS", y.count(7), 200);
        A.due("the 200th", y.price(1, 0, 0, 1), 8);
        A.due("not the 201st", y.price(2, 0, 0, 1), 0);
        A.due("the 199th", y.price(0, 0, 0, 0), 199);
    }

    /** Promise 35: of a TOWN (8: here) and KIND, from low to high (0 to 9999), low not above high. */
    private static void newsValues() {
        MerchantYard y = new MerchantYard();
        A.due("town -1", y.news(-1, 0, 1, 2), -1);
        A.due("town 9", y.news(9, 0, 1, 2), -1);
        A.due("kind -1", y.news(0, -1, 1, 2), -1);
        A.due("kind 8", y.news(0, 8, 1, 2), -1);
        A.due("low -1", y.news(0, 0, -1, 2), -1);
        A.due("high 10000", y.news(0, 0, 1, 10000), -1);
        A.due("3 to 2", y.news(0, 0, 3, 2), -1);
        A.due("9999 to 9998", y.news(0, 0, 9999, 9998), -1);
        A.due("1 to 0", y.news(0, 0, 1, 0), -1);
        A.due("NEWS", y.count(7), 0);
        A.due("town 0, kind 0, 0 to 0", y.news(0, 0, 0, 0), 1);
        A.due("here, kind 7, 9999 to 9999", y.news(8, 7, 9999, 9999), 2);
        A.due("0 to 9999", y.news(7, 0, 0, 9999), 3);
        A.due("low", y.price(7, 0, 0, 0), 0);
        A.due("high", y.price(7, 0, 0, 1), 9999);
        A.due("here", y.price(8, 7, 0, 0), 9999);
    }

    /** Promise 36: of a TOWN (8: here) and KIND, as KNOWN on a DAY, what 0 and 1; NONE without these. */
    private static void priceValues() {
        MerchantYard y = new MerchantYard();
        y.news(0, 0, 3, 4);
        y.news(8, 7, 5, 6);
        A.due("town -1", y.price(-1, 0, 0, 0), -1);
        A.due("town 0", y.price(0, 0, 0, 0), 3);
        A.due("town 8", y.price(8, 7, 0, 0), 5);
        A.due("town 9", y.price(9, 0, 0, 0), -1);
        A.due("kind -1", y.price(0, -1, 0, 0), -1);
        A.due("kind 7", y.price(8, 7, 0, 1), 6);
        A.due("kind 8", y.price(0, 8, 0, 0), -1);
        A.due("day -1", y.price(0, 0, -1, 0), -1);
        A.due("day 3999", y.price(0, 0, 3999, 1), 4);
        A.due("day 4000", y.price(0, 0, 4000, 0), -1);
        A.due("what -1", y.price(0, 0, 0, -1), -1);
        A.due("what 2", y.price(0, 0, 0, 2), -1);
    }

    /** VI: KNOWN from NOW on; of these the last one told counts; without: 0 to 0. */
    private static void priceOfTheLastOneTold() {
        MerchantYard y = new MerchantYard();
        y.clock(3);
        y.news(2, 2, 10, 20);
        y.clock(5);
        y.news(2, 2, 30, 40);
        y.news(2, 2, 1, 2);
        int[] low = {0, 0, 0, 10, 10, 1, 1};
        int[] high = {0, 0, 0, 20, 20, 2, 2};
        for (int day = 0; day < 7; day++) {
            A.due("low on " + day, y.price(2, 2, day, 0), low[day]);
            A.due("high on " + day, y.price(2, 2, day, 1), high[day]);
        }
        A.due("another kind", y.price(2, 3, 5, 1), 0);
        A.due("another town", y.price(3, 2, 5, 1), 0);
    }

    // ---- the plan

    /** Promise 37: NONE without him there. */
    private static void planOfAManThere() {
        MerchantYard y = house(5);
        A.due("man -1", y.plan(-1), -1);
        A.due("man 2", y.plan(2), -1);
        A.due("no plan yet", y.high(), -1);
        A.due("man 1, without a LOT", y.plan(1), 0);
        A.due("its highs", y.high(), 0);
        A.due("man 0", y.plan(0), 0);
        y.leave(0);
        A.due("one that left", y.plan(0), -1);
        A.due("his plan stays", y.planned(-1, 0), 1);
        y.die(1);
        A.due("one that died", y.plan(1), -1);
    }

    /** VI: his first five LOTS (of some amount, by numbers). */
    private static void planFirstFiveLots() {
        MerchantYard y = house(1, 2, 4, 8);
        y.bring(1, 0, 100);
        y.bring(0, 0, 16);
        y.news(8, 0, 1, 2);
        plan(y, "five", 31, 62, -1, -1, -1, -1, -1);
        A.due("the fifth", y.planned(4, 0), 5);
        y.bring(0, 0, 32);
        plan(y, "six", 31, 62, -1, -1, -1, -1, -1);
        A.due("the sixth is not of them", y.planned(5, 0), -1);
        y.deal(0, 1, 1, 1, 0, 0, 0);
        plan(y, "one of amount 1", 30, 60, -1, -1, -1, -1, -1);
        y.deal(0, 1, 1, 1, 0, 0, 0);
        plan(y, "one of amount 0", 61, 122, -1, -1, -1, -1, -1);
        int[] lots = {0, 2, 3, 5, 6};
        for (int k = 0; k < 5; k++) {
            A.due("lot " + k, y.planned(k, 0), lots[k]);
        }
    }

    /** VI: the first four SHIPS by their DAYS, then numbers. */
    private static void planFirstFourShips() {
        MerchantYard y = house(5, 5, 5, 5, 5);
        int[] days = {9, 4, 9, 4, 3, 9};
        for (int k = 0; k < 3; k++) {
            y.ship(1, days[k], 1, 5);
        }
        A.due("three", y.plan(0), 0);
        A.due("ships", y.planned(-1, 1), 3);
        y.ship(1, days[3], 1, 5);
        plan(y, "four", 0, 0, 1, 3, 0, 2, -1);
        A.due("ships", y.planned(-1, 1), 4);
        y.ship(1, days[4], 1, 5);
        y.ship(1, days[5], 1, 5);
        plan(y, "the first four of six", 0, 0, 4, 1, 3, 0, -1);
        A.due("ships", y.planned(-1, 1), 4);
    }

    /** VI: that have not left (DAY not ahead of NOW). */
    private static void planShipsThatHaveNotLeft() {
        MerchantYard y = house(5);
        y.ship(1, 5, 1, 5);
        y.news(1, 0, 2, 2);
        y.clock(4);
        plan(y, "the day ahead", 10, 10, 0);
        y.clock(5);
        plan(y, "its DAY", 10, 10, 0);
        y.clock(6);
        plan(y, "the day behind", 0, 0, -1);
        A.due("ships", y.planned(-1, 1), 0);
    }

    /** VI: whose TOWN's port is not SHUT on the DAY of coming. */
    private static void planPortsShutOnTheDayOfComing() {
        int[][] shut = {{0, 14}, {0, 15}, {15, 15}, {15, 20}, {16, 20}, {14, 14}, {16, 16}};
        boolean[] goes = {true, false, false, false, true, true, true};
        for (int k = 0; k < shut.length; k++) {
            MerchantYard y = house(5);
            y.ship(1, 5, 10, 5);
            y.shut(1, shut[k][0], shut[k][1]);
            y.shut(2, 0, 3999);
            y.readShut(0);
            y.readShut(1);
            plan(y, "from " + shut[k][0] + " to " + shut[k][1], 0, 0, goes[k] ? 0 : -1);
            A.due("ships", y.planned(-1, 1), goes[k] ? 1 : 0);
        }
        MerchantYard y = house(5);
        y.ship(1, 3999, 1, 5);
        y.shut(1, 0, 3999);
        y.readShut(0);
        plan(y, "coming behind all DAYS", 0, 0, 0);
    }

    /** VI: as READ by NOW. */
    private static void planPortsAsReadByNow() {
        MerchantYard y = house(5);
        y.ship(1, 9, 1, 5);
        y.shut(1, 10, 10);
        plan(y, "told", 0, 0, 0);
        y.clock(4);
        y.readShut(0);
        plan(y, "READ this day", 0, 0, -1);
        y.clock(5);
        plan(y, "READ before", 0, 0, -1);
    }

    /** VI: no SHIP above its room. */
    private static void planRoomOfAShip() {
        for (int room = 4; room <= 11; room++) {
            MerchantYard y = house(5, 5);
            y.ship(1, 5, 10, room);
            y.news(1, 0, 2, 3);
            int first = room >= 5 ? 0 : -1;
            int second = room >= 10 ? 0 : -1;
            int went = (room >= 5 ? 5 : 0) + (room >= 10 ? 5 : 0);
            plan(y, "room " + room, 2 * went, 3 * went, first, second);
        }
    }

    /** VI: each LOT goes whole by one of these or is sold here. */
    private static void planWholeLots() {
        MerchantYard y = house(6, 5, 5);
        y.ship(1, 3, 1, 10);
        y.news(1, 0, 9, 9);
        y.news(8, 0, 1, 1);
        plan(y, "two fives, not a six and a part", 96, 96, -1, 0, 0);
        y.ship(1, 4, 1, 6);
        plan(y, "all", 144, 144, 1, 0, 0);
    }

    /** VI: best: the greatest sum of amounts times low. */
    private static void planGreatestLows() {
        MerchantYard y = house(5);
        y.ship(1, 5, 1, 5);
        y.ship(2, 5, 1, 5);
        y.news(1, 0, 4, 9999);
        y.news(2, 0, 5, 5);
        plan(y, "a greater low", 25, 25, 1);
        y.news(8, 0, 6, 6);
        plan(y, "here", 30, 30, -1);
        y.news(1, 0, 7, 7);
        plan(y, "the first", 35, 35, 0);
    }

    /** VI: then of amounts times high. */
    private static void planThenHighs() {
        MerchantYard y = house(5);
        y.ship(1, 5, 1, 5);
        y.ship(2, 5, 1, 5);
        y.news(1, 0, 4, 6);
        y.news(2, 0, 4, 7);
        y.news(8, 0, 3, 9999);
        plan(y, "a greater high", 20, 35, 1);
        y.news(8, 0, 4, 8);
        plan(y, "here", 20, 40, -1);
        y.news(1, 0, 4, 8);
        plan(y, "alike, the first", 20, 40, 0);
    }

    /** VI: then the first: the first LOT by the first SHIP, .. (here behind all), and so on. */
    private static void planThenTheFirst() {
        MerchantYard y = house(5, 5, 5);
        y.ship(1, 5, 1, 5);
        y.ship(2, 5, 1, 5);
        y.news(1, 0, 3, 3);
        y.news(2, 0, 3, 3);
        plan(y, "three of two ships", 30, 30, 0, 1, -1);
        y.news(8, 0, 3, 3);
        plan(y, "three alike", 45, 45, 0, 1, -1);
        y.news(1, 0, 2, 2);
        plan(y, "the first ship pays less", 45, 45, 1, -1, -1);
        y = house(5, 4, 1);
        y.ship(1, 5, 1, 5);
        y.news(1, 0, 3, 3);
        plan(y, "the first LOT, not the others", 15, 15, 0, -1, -1);
        y = house(5, 6);
        y.ship(1, 5, 1, 6);
        y.news(1, 0, 3, 3);
        plan(y, "the greater one", 18, 18, -1, 0);
    }

    /** VI: sums above 32 bits. */
    private static void planOfLargeSums() {
        MerchantYard y = house(100000, 100000, 100000, 100000, 100000);
        y.ship(1, 5, 1, 499999);
        y.news(1, 0, 9999, 9999);
        y.news(8, 0, 9998, 9999);
        plan(y, "five", 4999400000L, 4999500000L, 0, 0, 0, 0, -1);
        y.ship(2, 6, 1, 1000000);
        y.news(2, 0, 9999, 9999);
        plan(y, "the most of all", 4999500000L, 4999500000L, 0, 0, 0, 0, 1);
    }

    /** VI: prices as KNOWN NOW: of the SHIP's TOWN, of the LOT's KIND. */
    private static void planPricesKnownNow() {
        MerchantYard y = house(5);
        y.bring(0, 1, 7);
        y.ship(1, 5, 1, 50);
        y.news(1, 0, 2, 2);
        y.news(1, 1, 3, 3);
        plan(y, "each of its KIND", 31, 31, 0, 0);
        y.clock(2);
        y.news(1, 1, 1, 1);
        plan(y, "the latest", 17, 17, 0, 0);
    }

    /** Promise 38: NONE without it, or for another what. */
    private static void plannedRows() {
        MerchantYard y = house(5);
        for (int k = -2; k < 2; k++) {
            A.due("ahead of any " + k, y.planned(k, 0), -1);
        }
        y.bring(1, 0, 5);
        y.bring(0, 0, 5);
        y.ship(1, 5, 1, 5);
        y.plan(0);
        int[][] due = {{-1, -1, -1, -1}, {-1, 2, 1, -1}, {-1, 0, 0, -1}, {-1, 2, -1, -1}, {-1, -1, -1, -1}};
        for (int k = -2; k <= 2; k++) {
            for (int what = -1; what <= 2; what++) {
                A.due("planned(" + k + ", " + what + ")", y.planned(k, what), due[k + 2][what + 1]);
            }
        }
    }

    /** Promises 38 and 39: of the latest plan() that was not NONE; what happens behind it changes nothing. */
    private static void plannedOfTheLatestPlan() {
        MerchantYard y = house(5);
        A.due("ahead of any", y.high(), -1);
        y.ship(1, 5, 1, 5);
        y.news(1, 0, 2, 3);
        plan(y, "the plan", 10, 15, 0);
        y.clock(6);
        y.deal(0, 1, 0, 5, 0, 0, 0);
        y.news(1, 0, 0, 0);
        A.due("NONE", y.plan(2), -1);
        A.due("high", y.high(), 15);
        A.due("lots", y.planned(-1, 0), 1);
        A.due("ships", y.planned(-1, 1), 1);
        A.due("lot", y.planned(0, 0), 0);
        A.due("ship", y.planned(0, 1), 0);
        A.due("another one", y.plan(1), 0);
        A.due("of another man", y.planned(0, 0), 1);
        A.due("high", y.high(), 0);
    }

    // ---- who sails

    /** Promise 40: a MAN there by a SHIP; NONE, and nothing happens, without these. */
    private static void sailByAShip() {
        MerchantYard y = house();
        A.due("no ship", y.sail(0, 0), -1);
        y.ship(1, 5, 1, 1);
        A.due("ship -1", y.sail(0, -1), -1);
        A.due("ship 1", y.sail(0, 1), -1);
        A.due("man -1", y.sail(-1, 0), -1);
        A.due("man 2", y.sail(2, 0), -1);
        A.due("man 1", y.sail(1, 0), 0);
        A.due("is there behind that", y.men(1, 1), 1);
        y.leave(0);
        A.due("one that left", y.sail(0, 0), -1);
        y.man(0, false, 1);
        y.die(2);
        A.due("one that died", y.sail(2, 0), -1);
    }

    /** VI: once at most by each. */
    private static void sailOnceByEach() {
        MerchantYard y = house();
        for (int k = 0; k < 20; k++) {
            y.ship(k % 8, 5, 1, 1);
        }
        y.shut(3, 6, 6);
        y.readShut(0);
        for (int k = 0; k < 20; k++) {
            A.due("by " + k, y.sail(0, k), k % 8 == 3 ? 1 : 0);
        }
        for (int k = 0; k < 20; k++) {
            A.due("again by " + k, y.sail(0, k), -1);
        }
        A.due("broke", y.broke(0), 3);
        A.due("the other", y.sail(1, 3), 1);
        A.due("the other broke", y.broke(1), 1);
    }

    /** VI: NOW its DAY or ahead of it. */
    private static void sailByItsDay() {
        MerchantYard y = house();
        y.man(0, false, 1);
        y.ship(1, 5, 1, 1);
        A.due("long ahead of it", y.sail(0, 0), 0);
        y.clock(5);
        A.due("its DAY", y.sail(1, 0), 0);
        y.clock(6);
        A.due("behind it", y.sail(2, 0), -1);
        A.due("again behind it", y.sail(1, 0), -1);
    }

    /** VI: he BREAKS a port that is SHUT on the DAY of coming. */
    private static void sailOnTheDayOfComing() {
        int[][] shut = {{0, 14}, {0, 15}, {15, 15}, {15, 20}, {16, 20}};
        int[] due = {0, 1, 1, 1, 0};
        for (int k = 0; k < shut.length; k++) {
            MerchantYard y = house();
            y.ship(1, 5, 10, 1);
            y.ship(2, 5, 10, 1);
            y.shut(1, shut[k][0], shut[k][1]);
            A.due("told, from " + shut[k][0], y.sail(0, 0), 2 * due[k]);
            y.readShut(0);
            A.due("READ, from " + shut[k][0], y.sail(1, 0), due[k]);
            A.due("another port", y.sail(1, 1), 0);
            A.due("who went in good faith", y.broke(0), 0);
            A.due("who broke it", y.broke(1), due[k]);
        }
    }

    /** VI: in good faith if it is SHUT then by none that was READ, but by one that was told. */
    private static void sailInGoodFaith() {
        MerchantYard y = house();
        y.man(0, false, 1);
        y.ship(1, 5, 10, 1);
        y.shut(1, 15, 15);
        y.shut(1, 14, 16);
        A.due("two told", y.sail(0, 0), 2);
        y.readShut(1);
        A.due("one READ, one told", y.sail(1, 0), 1);
        y.readShut(0);
        A.due("both READ", y.sail(2, 0), 1);
        y = house();
        y.ship(1, 5, 10, 1);
        y.shut(1, 16, 20);
        y.shut(1, 15, 15);
        y.readShut(0);
        A.due("READ for other DAYS, told for that", y.sail(0, 0), 2);
    }

    /** VI: a DAY of coming behind DAY 3999 is none on which a port is SHUT. */
    private static void sailBehindAllDays() {
        MerchantYard y = house();
        y.ship(1, 3900, 99, 1);
        y.ship(1, 3901, 99, 1);
        y.shut(1, 0, 3999);
        A.due("coming on 3999, told", y.sail(0, 0), 2);
        y.readShut(0);
        A.due("coming on 3999", y.sail(1, 0), 1);
        A.due("coming on 4000", y.sail(1, 1), 0);
    }

    /** Promise 41: NONE without him; there or not. */
    private static void brokeRows() {
        MerchantYard y = house();
        y.ship(1, 5, 1, 1);
        y.shut(1, 6, 6);
        y.readShut(0);
        y.sail(1, 0);
        A.due("man -1", y.broke(-1), -1);
        A.due("man 0", y.broke(0), 0);
        A.due("man 1", y.broke(1), 1);
        A.due("man 2", y.broke(2), -1);
        y.leave(1);
        A.due("one that left", y.broke(1), 1);
    }

    // ---- the breakers

    /** Promise 42: hand k (0 to 7); false, and nothing happens, if there is none ahead of it (k more than there are). */
    private static void handOneBehindAnother() {
        MerchantYard y = new MerchantYard();
        for (int k = 0; k < 8; k++) {
            A.no("hand " + (k + 1) + " of " + k, y.hand(k + 1, 1, 1, 1));
            A.due("hands", y.count(10), k);
            A.yes("hand " + k + " of " + k, y.hand(k, 1, 1, 1));
            A.due("hands", y.count(10), k + 1);
            A.yes("the first again", y.hand(0, 2, 2, 2));
            A.due("hands", y.count(10), k + 1);
        }
        A.no("hand 8", y.hand(8, 1, 1, 1));
        A.no("hand -1", y.hand(-1, 1, 1, 1));
        A.yes("hand 7 again", y.hand(7, 1, 1, 1));
        A.due("hands", y.count(10), 8);
    }

    /** Promise 42: a gain (0 to 9999), a fine (0 to 9999), a crowd (1 to 8). */
    private static void handValues() {
        MerchantYard y = new MerchantYard();
        A.no("gain -1", y.hand(0, -1, 0, 1));
        A.no("gain 10000", y.hand(0, 10000, 0, 1));
        A.no("fine -1", y.hand(0, 0, -1, 1));
        A.no("fine 10000", y.hand(0, 0, 10000, 1));
        A.no("crowd 0", y.hand(0, 0, 0, 0));
        A.no("crowd 9", y.hand(0, 0, 0, 9));
        A.due("hands", y.count(10), 0);
        A.yes("the least", y.hand(0, 0, 0, 1));
        A.due("of which all sets hold", y.breakers(1), 2);
        A.yes("the most", y.hand(0, 9999, 9999, 8));
        A.due("of which all sets hold", y.breakers(1), 2);
        A.no("one of them refused", y.hand(0, 5, 0, 9));
        A.due("as it was", y.breakers(1), 2);
    }

    /** Promise 43: the first n hands; NONE, and nothing happens, if there are not so many (1 to 8). */
    private static void breakersOneToEight() {
        MerchantYard y = new MerchantYard();
        A.due("1 of 0", y.breakers(1), -1);
        for (int k = 0; k < 8; k++) {
            y.hand(k, 1, 0, 1);
            A.due("0 of " + (k + 1), y.breakers(0), -1);
            A.due("all of " + (k + 1), y.breakers(k + 1), 1);
            A.due("all break", y.holds(0), (2 << k) - 1);
            A.due("one more than " + (k + 1), y.breakers(k + 2), -1);
            A.due("the sets stay", y.holds(0), (2 << k) - 1);
        }
        A.due("the first", y.breakers(1), 1);
        A.due("breaks", y.holds(0), 1);
        A.due("-1", y.breakers(-1), -1);
        A.due("9", y.breakers(9), -1);
    }

    /** VI: a set HOLDS if nobody in it would have more by obeying, and nobody else more by breaking, too. */
    private static void breakersNotMore() {
        int[][] gainAndFine = {{4, 5}, {5, 5}, {6, 5}};
        int[][] due = {{0, -1}, {0, 1}, {1, -1}};
        for (int k = 0; k < 3; k++) {
            MerchantYard y = new MerchantYard();
            y.hand(0, gainAndFine[k][0], gainAndFine[k][1], 2);
            A.due("gain " + gainAndFine[k][0], y.breakers(1), due[k][1] < 0 ? 1 : 2);
            A.due("first", y.holds(0), due[k][0]);
            A.due("second", y.holds(1), due[k][1]);
        }
    }

    /** VI: their gain, less the fine if they are fewer than the crowd. */
    private static void breakersFewerThanTheCrowd() {
        for (int crowd = 1; crowd <= 8; crowd++) {
            MerchantYard y = new MerchantYard();
            for (int k = 0; k < 4; k++) {
                y.hand(k, 1, 5, crowd);
            }
            // none breaks alone but of a crowd of 1; all four hold in a crowd of 4 at most
            boolean none = crowd > 1;
            boolean all = crowd <= 4;
            A.due("crowd " + crowd, y.breakers(4), (none ? 1 : 0) + (all ? 1 : 0));
            A.due("the first", y.holds(0), none ? 0 : 15);
            A.due("the second", y.holds(1), none && all ? 15 : -1);
        }
    }

    /** VI: all that HOLD, by their bits (hand k is bit k). */
    private static void breakersOfAllSets() {
        MerchantYard y = new MerchantYard();
        for (int k = 0; k < 8; k++) {
            y.hand(k, 0, 0, 8);
        }
        A.due("all sets", y.breakers(8), 256);
        for (int k = 0; k < 256; k++) {
            A.due("set " + k, y.holds(k), k);
        }
        A.due("behind the last", y.holds(256), -1);
        y = new MerchantYard();
        y.hand(0, 0, 1, 8);
        y.hand(1, 1, 0, 8);
        A.due("of a hand that breaks and one that doesn't", y.breakers(2), 1);
        A.due("bit 1", y.holds(0), 2);
    }

    /** Promise 44: the k-th of these; NONE. */
    private static void holdsRows() {
        MerchantYard y = new MerchantYard();
        A.due("ahead of any", y.holds(0), -1);
        y.hand(0, 5, 5, 2);
        A.due("told, not asked", y.holds(0), -1);
        y.breakers(1);
        A.due("-1", y.holds(-1), -1);
        A.due("0", y.holds(0), 0);
        A.due("1", y.holds(1), 1);
        A.due("2", y.holds(2), -1);
        y.hand(0, 6, 5, 2);
        A.due("of the latest breakers()", y.holds(1), 1);
        y.breakers(1);
        A.due("fewer then", y.holds(0) * 10 + y.holds(1), 9);
    }
}
