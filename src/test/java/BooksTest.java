/** Promises 45 to 48: entries of the two ends, and how they are joined. */
public final class BooksTest {
    private static final Answers A = new Answers("BooksTest");

    public static void main(String[] args) {
        entry();
        clear();
        joinAnswers();
        joinBest();
        joinTies();
        joinedStays();
        A.end();
    }

    private static MerchantYard house() {
        MerchantYard y = new MerchantYard();
        y.man(0, false, 0);
        y.man(1, false, 0);
        return y;
    }

    private static void entry() {
        MerchantYard y = house();
        A.due("book -1", y.entry(-1, 0, 0, 0), -1);
        A.due("book 2", y.entry(2, 0, 0, 0), -1);
        A.due("day -1", y.entry(0, -1, 0, 0), -1);
        A.due("day 4000", y.entry(0, 4000, 0, 0), -1);
        A.due("man -1", y.entry(0, 0, -1, 0), -1);
        A.due("man 2", y.entry(0, 0, 2, 0), -1);
        A.due("coins -1", y.entry(0, 0, 0, -1), -1);
        A.due("coins 1000001", y.entry(0, 0, 0, 1000001), -1);
        y.leave(1);
        A.due("of one who left", y.entry(0, 3999, 1, 1000000), 0);
        for (int k = 1; k < 10; k++) {
            A.due("ours " + k, y.entry(0, 0, 0, 0), k);
        }
        A.due("an eleventh", y.entry(0, 0, 0, 0), -1);
        for (int k = 0; k < 10; k++) {
            A.due("home " + k, y.entry(1, 0, 0, 0), k);
        }
        A.due("an eleventh", y.entry(1, 0, 0, 0), -1);
        A.due("ours", y.count(11), 10);
        A.due("home's", y.count(12), 10);
    }

    private static void clear() {
        MerchantYard y = house();
        A.due("none", y.clear(), 0);
        y.entry(0, 0, 0, 0);
        y.entry(0, 0, 0, 0);
        y.entry(1, 0, 0, 0);
        A.due("three", y.clear(), 3);
        A.due("ours", y.count(11), 0);
        A.due("home's", y.count(12), 0);
        A.due("none", y.clear(), 0);
        A.due("from the first on", y.entry(1, 0, 0, 0), 0);
    }

    private static void joinAnswers() {
        MerchantYard y = house();
        A.due("ahead of any", y.joined(-1), -1);
        A.due("coins -1", y.join(-1, 0), -1);
        A.due("coins 1001", y.join(1001, 0), -1);
        A.due("days -1", y.join(0, -1), -1);
        A.due("days 1001", y.join(0, 1001), -1);
        A.due("ahead of any", y.joined(-1), -1);
        A.due("without entries", y.join(0, 0), 0);
        A.due("coins", y.joined(-1), 0);
        A.due("days", y.joined(-2), 0);
        A.due("entry 0", y.joined(0), -1);
        y.entry(0, 10, 0, 100);
        y.entry(0, 10, 1, 100);
        y.entry(1, 13, 0, 104);
        A.due("coins too far", y.join(3, 3), 0);
        A.due("days too far", y.join(4, 2), 0);
        A.due("just within", y.join(4, 3), 1);
        A.due("its pair", y.joined(0), 0);
        A.due("another man", y.joined(1), -1);
        A.due("behind", y.joined(2), -1);
        A.due("coins", y.joined(-1), 4);
        A.due("days", y.joined(-2), 3);
        A.due("k -3", y.joined(-3), -1);
        A.due("widest", y.join(1000, 1000), 1);
        A.due("coins of the latest", y.joined(-1), 4);
        A.due("days of the latest", y.joined(-2), 3);
        y.clear();
        y.entry(0, 10, 1, 100);
        y.entry(0, 10, 0, 100);
        y.entry(1, 10, 0, 104);
        A.due("of one man alone", y.join(4, 0), 1);
        A.due("not the other's", y.joined(0), -1);
        A.due("his", y.joined(1), 0);
        A.due("no pair any more", y.join(3, 0), 0);
        A.due("no coins", y.joined(-1), 0);
    }

    private static void joinBest() {
        MerchantYard y = house();
        y.entry(0, 0, 0, 100);
        y.entry(0, 0, 0, 103);
        y.entry(1, 0, 0, 103);
        y.entry(1, 0, 0, 106);
        A.due("the most pairs ahead of the least coins", y.join(3, 0), 2);
        A.due("first", y.joined(0), 0);
        A.due("second", y.joined(1), 1);
        A.due("coins", y.joined(-1), 6);
        A.due("wider", y.join(10, 0), 2);
        A.due("both ways cost 6, the first is due", y.joined(0), 0);
        y.clear();
        for (int k = 0; k < 10; k++) {
            y.entry(0, 0, 0, 1000 * k);
            y.entry(1, 0, 0, 1000 * k + 1000);
        }
        A.due("ten pairs far apart ahead of nine alike", y.join(1000, 0), 10);
        A.due("coins", y.joined(-1), 10000);
        A.due("nine alike", y.join(999, 0), 9);
        A.due("no coins", y.joined(-1), 0);
        A.due("the first has none", y.joined(0), -1);
        y.clear();
        y.entry(0, 5, 0, 10);
        y.entry(1, 9, 0, 10);
        y.entry(1, 5, 0, 11);
        A.due("coins ahead of days", y.join(9, 9), 1);
        A.due("the first of home's", y.joined(0), 0);
        A.due("days", y.joined(-2), 4);
        y.clear();
        y.entry(0, 5, 0, 10);
        y.entry(1, 9, 0, 11);
        y.entry(1, 6, 0, 9);
        A.due("alike coins", y.join(9, 9), 1);
        A.due("then days", y.joined(0), 1);
    }

    private static void joinTies() {
        MerchantYard y = house();
        for (int k = 0; k < 3; k++) {
            y.entry(0, 5, 0, 10);
            y.entry(1, 5, 0, 10);
        }
        y.entry(0, 5, 0, 10);
        A.due("three pairs", y.join(0, 0), 3);
        int[] due = {0, 1, 2, -1};
        for (int k = 0; k < 4; k++) {
            A.due("none behind all, " + k, y.joined(k), due[k]);
        }
        y.clear();
        for (int k = 0; k < 10; k++) {
            y.entry(0, 5, 0, 1000 + k);
            y.entry(1, 5, 0, 1009 - k);
        }
        A.due("ten pairs", y.join(0, 0), 10);
        for (int k = 0; k < 10; k++) {
            A.due("pair " + k, y.joined(k), 9 - k);
        }
        A.due("ten pairs, wide", y.join(1000, 1000), 10);
        A.due("no coins apart", y.joined(-1), 0);
        y.clear();
        for (int k = 0; k < 10; k++) {
            y.entry(0, 0, 0, 0);
            y.entry(1, 1000, 0, 1000);
        }
        A.due("ten pairs, far", y.join(1000, 1000), 10);
        A.due("coins apart", y.joined(-1), 10000);
        A.due("days apart", y.joined(-2), 10000);
    }

    private static void joinedStays() {
        MerchantYard y = house();
        y.entry(0, 0, 0, 7);
        y.entry(1, 0, 0, 7);
        y.join(0, 0);
        A.due("pair", y.joined(0), 0);
        y.join(-1, 0);
        y.entry(0, -1, 0, 0);
        y.clock(3);
        A.due("nothing came or went", y.joined(0), 0);
        y.entry(1, 0, 1, 1);
        A.due("an entry came", y.joined(0), -1);
        A.due("an entry came", y.joined(-1), -1);
        y.join(0, 0);
        A.due("joined again", y.joined(-1), 0);
        y.clear();
        A.due("they went", y.joined(-1), -1);
        A.due("they went", y.joined(-2), -1);
        y.entry(0, 0, 1, 1);
        y.join(0, 0);
        y.clear();
        A.due("one went", y.joined(-1), -1);
        y.join(5, 5);
        y.clear();
        A.due("none went", y.joined(-1), 0);
    }
}
