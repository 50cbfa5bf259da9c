/** The bounds that promises 45 to 48 and part VII name, a test for each sentence, on both sides of the bound. */
public final class BoundsOfBooksTest {
    private static final Answers A = new Answers("BoundsOfBooksTest");

    public static void main(String[] args) {
        entriesTenOfEach();
        entryValues();
        entryOfAManThereOrNot();
        clearAll();
        joinTolerances();
        joinWithinBoth();
        joinOfOneMan();
        joinMostPairs();
        joinThenCoins();
        joinThenDays();
        joinThenTheFirst();
        joinOfTen();
        joinedRows();
        joinedTillAnEntryComesOrGoes();
        A.end();
    }

    private static MerchantYard house() {
        MerchantYard y = new MerchantYard();
        y.man(0, false, 0);
        y.man(1, false, 0);
        return y;
    }

    private static void joined(MerchantYard y, String what, int coins, int days, int... partners) {
        for (int k = 0; k < partners.length; k++) {
            A.due(what + ": partner of " + k, y.joined(k), partners[k]);
        }
        A.due(what + ": coins", y.joined(-1), coins);
        A.due(what + ": days", y.joined(-2), days);
    }

    /** Promise 45: ENTRIES, 10 at most of each. */
    private static void entriesTenOfEach() {
        MerchantYard y = house();
        for (int k = 0; k < 9; k++) {
            A.due("ours " + k, y.entry(0, 0, 0, 0), k);
        }
        A.due("home's first", y.entry(1, 0, 0, 0), 0);
        A.due("ours, the 10th", y.entry(0, 0, 0, 0), 9);
        A.due("ours, the 11th", y.entry(0, 0, 0, 0), -1);
        for (int k = 1; k < 9; k++) {
            y.entry(1, 0, 0, 0);
        }
        A.due("home's 10th", y.entry(1, 0, 0, 0), 9);
        A.due("home's 11th", y.entry(1, 0, 0, 0), -1);
        A.due("ours", y.count(11), 10);
        A.due("home's", y.count(12), 10);
    }

    /** Promise 45: a BOOK (0 ours, 1 home), a DAY, a MAN, coins (0 to 1000000). */
    private static void entryValues() {
        MerchantYard y = house();
        A.due("book -1", y.entry(-1, 0, 0, 0), -1);
        A.due("book 2", y.entry(2, 0, 0, 0), -1);
        A.due("day -1", y.entry(0, -1, 0, 0), -1);
        A.due("day 4000", y.entry(0, 4000, 0, 0), -1);
        A.due("man -1", y.entry(0, 0, -1, 0), -1);
        A.due("man 2", y.entry(0, 0, 2, 0), -1);
        A.due("coins -1", y.entry(0, 0, 0, -1), -1);
        A.due("coins 1000001", y.entry(0, 0, 0, 1000001), -1);
        A.due("ours", y.count(11), 0);
        A.due("home's", y.count(12), 0);
        A.due("the least of all", y.entry(0, 0, 0, 0), 0);
        A.due("the most of all", y.entry(1, 3999, 1, 1000000), 0);
        A.due("a DAY behind NOW", y.entry(0, 3999, 1, 1000000), 1);
        A.due("they pair", y.join(0, 0), 1);
        joined(y, "they pair", 0, 0, -1, 0);
    }

    /** Promise 45: of a MAN, there or not. */
    private static void entryOfAManThereOrNot() {
        MerchantYard y = house();
        y.leave(0);
        y.die(1);
        A.due("one that left", y.entry(0, 0, 0, 5), 0);
        A.due("one that died", y.entry(1, 0, 1, 5), 0);
    }

    /** Promise 46: all ENTRIES go: how many there were, of both. */
    private static void clearAll() {
        MerchantYard y = house();
        A.due("none", y.clear(), 0);
        y.entry(1, 0, 0, 0);
        A.due("one of home's", y.clear(), 1);
        for (int k = 0; k < 20; k++) {
            y.entry(k % 2, 0, 0, 0);
        }
        A.due("twenty", y.clear(), 20);
        A.due("ours", y.count(11), 0);
        A.due("home's", y.count(12), 0);
        A.due("none", y.clear(), 0);
        A.due("the first again", y.entry(0, 0, 0, 0), 0);
        A.due("the first again", y.entry(1, 0, 0, 0), 0);
        A.due("and no more of the old", y.join(1000, 1000), 1);
    }

    /** Promise 47: tolerances of coins and DAYS (0 to 1000 each); NONE, and nothing happens, for others. */
    private static void joinTolerances() {
        MerchantYard y = house();
        y.entry(0, 0, 0, 0);
        y.entry(1, 1000, 0, 1000);
        A.due("coins -1", y.join(-1, 1000), -1);
        A.due("coins 1001", y.join(1001, 1000), -1);
        A.due("days -1", y.join(1000, -1), -1);
        A.due("days 1001", y.join(1000, 1001), -1);
        A.due("nothing happened", y.joined(-1), -1);
        A.due("0 and 0", y.join(0, 0), 0);
        A.due("1000 and 1000", y.join(1000, 1000), 1);
        joined(y, "1000 and 1000", 1000, 1000, 0);
        A.due("refused", y.join(1001, 0), -1);
        joined(y, "as it was", 1000, 1000, 0);
    }

    /** VII: within both. */
    private static void joinWithinBoth() {
        MerchantYard y = house();
        y.entry(0, 100, 0, 500);
        y.entry(1, 103, 0, 495);
        A.due("just within both", y.join(5, 3), 1);
        A.due("coins one too far", y.join(4, 3), 0);
        A.due("days one too far", y.join(5, 2), 0);
        A.due("wide", y.join(6, 4), 1);
        y.clear();
        y.entry(0, 103, 0, 495);
        y.entry(1, 100, 0, 500);
        A.due("the other way round, within both", y.join(5, 3), 1);
        A.due("the other way round, coins", y.join(4, 1000), 0);
        A.due("the other way round, days", y.join(1000, 2), 0);
        y.clear();
        y.entry(0, 0, 0, 0);
        y.entry(1, 1001, 0, 0);
        y.entry(1, 0, 0, 1001);
        A.due("1001 apart", y.join(1000, 1000), 0);
        y.clear();
        y.entry(0, 0, 0, 0);
        y.entry(1, 3999, 0, 1000000);
        A.due("as far as can be", y.join(1000, 1000), 0);
    }

    /** VII: of one MAN. */
    private static void joinOfOneMan() {
        MerchantYard y = house();
        y.entry(0, 5, 0, 5);
        y.entry(0, 5, 1, 5);
        y.entry(1, 5, 1, 5);
        A.due("one pair", y.join(1000, 1000), 1);
        joined(y, "of man 1", 0, 0, -1, 0);
        y.entry(1, 5, 0, 9);
        A.due("two pairs", y.join(1000, 1000), 2);
        joined(y, "each", 4, 0, 1, 0);
    }

    /** VII: the most pairs. */
    private static void joinMostPairs() {
        MerchantYard y = house();
        y.entry(0, 0, 0, 1000);
        y.entry(0, 0, 0, 2000);
        y.entry(1, 0, 0, 2000);
        y.entry(1, 0, 0, 3000);
        A.due("one alike", y.join(999, 0), 1);
        joined(y, "one alike", 0, 0, -1, 0);
        A.due("two far apart", y.join(1000, 0), 2);
        joined(y, "two far apart", 2000, 0, 0, 1);
        y.clear();
        for (int k = 0; k < 10; k++) {
            y.entry(0, 100 * k, 0, 1000 * k);
            y.entry(1, 100 * k + 1000, 0, 1000 * k + 1000);
        }
        A.due("nine pairs alike in coins", y.join(999, 1000), 9);
        A.due("ten, as far as can be", y.join(1000, 1000), 10);
        joined(y, "ten", 10000, 10000, 0, 1, 2, 3, 4, 5, 6, 7, 8, 9);
    }

    /** VII: then the least sum of differences of coins. */
    private static void joinThenCoins() {
        MerchantYard y = house();
        y.entry(0, 0, 0, 100);
        y.entry(1, 0, 0, 102);
        y.entry(1, 1000, 0, 101);
        A.due("one", y.join(1000, 1000), 1);
        joined(y, "a coin less, days more", 1, 1000, 1);
        y.clear();
        for (int k = 0; k < 10; k++) {
            y.entry(0, 0, 0, 100 * k);
            y.entry(1, 1000, 0, 100 * k);
        }
        A.due("ten", y.join(1000, 1000), 10);
        joined(y, "all alike", 0, 10000, 0, 1, 2, 3, 4, 5, 6, 7, 8, 9);
    }

    /** VII: then of DAYS. */
    private static void joinThenDays() {
        MerchantYard y = house();
        y.entry(0, 10, 0, 100);
        y.entry(1, 13, 0, 101);
        y.entry(1, 12, 0, 99);
        A.due("one", y.join(1, 5), 1);
        joined(y, "a day less", 1, 2, 1);
        y.clear();
        y.entry(0, 10, 0, 100);
        y.entry(0, 20, 0, 100);
        y.entry(1, 20, 0, 100);
        y.entry(1, 10, 0, 100);
        A.due("two", y.join(0, 1000), 2);
        joined(y, "crosswise", 0, 0, 1, 0);
    }

    /** VII: then the first: the first of ours with the least of home's (none behind all), and so on. */
    private static void joinThenTheFirst() {
        MerchantYard y = house();
        y.entry(0, 10, 0, 100);
        y.entry(0, 10, 0, 100);
        y.entry(1, 10, 0, 100);
        A.due("one of two", y.join(0, 0), 1);
        joined(y, "the first of ours", 0, 0, 0, -1);
        y.entry(1, 10, 0, 100);
        y.entry(1, 10, 0, 100);
        A.due("two of three", y.join(0, 0), 2);
        joined(y, "the least of home's", 0, 0, 0, 1);
        y.clear();
        y.entry(0, 10, 0, 100);
        y.entry(0, 12, 0, 100);
        y.entry(1, 14, 0, 100);
        y.entry(1, 13, 0, 100);
        A.due("two of two", y.join(0, 9), 2);
        joined(y, "either way 5 days", 0, 5, 0, 1);
        y.clear();
        y.entry(0, 10, 0, 100);
        y.entry(0, 10, 0, 102);
        y.entry(1, 10, 0, 101);
        A.due("one of two", y.join(1, 0), 1);
        joined(y, "the first, as near as the second", 1, 0, 0, -1);
    }

    /** VII: of ten each, in one order of home's and the other. */
    private static void joinOfTen() {
        MerchantYard y = house();
        for (int k = 0; k < 10; k++) {
            y.entry(0, 5, 0, 3);
            y.entry(1, 5, 0, 3);
        }
        A.due("all alike", y.join(0, 0), 10);
        joined(y, "by numbers", 0, 0, 0, 1, 2, 3, 4, 5, 6, 7, 8, 9);
        y.clear();
        for (int k = 0; k < 10; k++) {
            y.entry(0, 5, 0, k);
            y.entry(1, 5, 0, 9 - k);
        }
        A.due("turned round", y.join(0, 0), 10);
        joined(y, "turned round", 0, 0, 9, 8, 7, 6, 5, 4, 3, 2, 1, 0);
        A.due("nobody else within", y.join(8, 0), 10);
        joined(y, "turned round still", 0, 0, 9, 8, 7, 6, 5, 4, 3, 2, 1, 0);
    }

    /** Promise 48: NONE without it. */
    private static void joinedRows() {
        MerchantYard y = house();
        for (int k = -3; k < 2; k++) {
            A.due("ahead of any " + k, y.joined(k), -1);
        }
        y.entry(0, 7, 0, 50);
        y.entry(0, 7, 1, 50);
        y.entry(1, 9, 0, 55);
        y.entry(1, 9, 0, 55);
        y.entry(1, 9, 0, 55);
        for (int k = -3; k < 2; k++) {
            A.due("told, not joined " + k, y.joined(k), -1);
        }
        y.join(10, 10);
        int[] due = {-1, 2, 5, 0, -1, -1, -1};
        for (int k = -3; k <= 3; k++) {
            A.due("joined(" + k + ")", y.joined(k), due[k + 3]);
        }
        y.clear();
        y.join(0, 0);
        A.due("of nothing, coins", y.joined(-1), 0);
        A.due("of nothing, days", y.joined(-2), 0);
        A.due("of nothing, entry 0", y.joined(0), -1);
    }

    /** Promise 48: by the latest join() behind which no ENTRY came or went. */
    private static void joinedTillAnEntryComesOrGoes() {
        MerchantYard y = house();
        y.entry(0, 7, 0, 50);
        y.entry(1, 7, 0, 51);
        y.join(10, 10);
        y.entry(0, 7, 0, -1);
        y.entry(2, 7, 0, 1);
        y.clock(5);
        y.leave(0);
        joined(y, "nothing came or went", 1, 0, 0);
        y.entry(0, 7, 1, 50);
        for (int k = -2; k < 2; k++) {
            A.due("one of ours came " + k, y.joined(k), -1);
        }
        y.join(10, 10);
        joined(y, "joined again", 1, 0, 0, -1);
        y.entry(1, 7, 1, 50);
        for (int k = -2; k < 2; k++) {
            A.due("one of home's came " + k, y.joined(k), -1);
        }
        y.join(10, 10);
        y.join(0, 0);
        joined(y, "by the latest", 0, 0, -1, 1);
        y.clear();
        for (int k = -2; k < 2; k++) {
            A.due("all went " + k, y.joined(k), -1);
        }
    }
}
