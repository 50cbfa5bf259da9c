/** Promises 42 to 44: hands, the sets that hold. */
public final class BreakersTest {
    private static final Answers A = new Answers("BreakersTest");

    public static void main(String[] args) {
        hand();
        breakers();
        holds();
        A.end();
    }

    private static void hand() {
        MerchantYard y = new MerchantYard();
        A.no("none ahead of it", y.hand(1, 0, 0, 1));
        A.no("hand -1", y.hand(-1, 0, 0, 1));
        A.no("gain -1", y.hand(0, -1, 0, 1));
        A.no("gain 10000", y.hand(0, 10000, 0, 1));
        A.no("fine -1", y.hand(0, 0, -1, 1));
        A.no("fine 10000", y.hand(0, 0, 10000, 1));
        A.no("crowd 0", y.hand(0, 0, 0, 0));
        A.no("crowd 9", y.hand(0, 0, 0, 9));
        A.due("none", y.count(10), 0);
        A.yes("the first", y.hand(0, 9999, 9999, 8));
        A.yes("the first again", y.hand(0, 1, 2, 1));
        A.due("one", y.count(10), 1);
        for (int k = 1; k < 8; k++) {
            A.yes("hand " + k, y.hand(k, k, k, k));
        }
        A.no("a ninth", y.hand(8, 0, 0, 1));
        A.due("eight", y.count(10), 8);
        A.yes("one of them again", y.hand(3, 0, 0, 1));
        A.due("eight", y.count(10), 8);
    }

    private static void breakers() {
        MerchantYard y = new MerchantYard();
        A.due("no hands", y.breakers(1), -1);
        y.hand(0, 5, 9, 2);
        y.hand(1, 5, 9, 2);
        A.due("0", y.breakers(0), -1);
        A.due("-1", y.breakers(-1), -1);
        A.due("3", y.breakers(3), -1);
        A.due("both or none", y.breakers(2), 2);
        A.due("none", y.holds(0), 0);
        A.due("both", y.holds(1), 3);
        A.due("behind", y.holds(2), -1);
        A.due("one alone obeys", y.breakers(1), 1);
        A.due("nobody", y.holds(0), 0);
        A.due("behind", y.holds(1), -1);
        A.due("not so many", y.breakers(9), -1);
        A.due("nothing happened", y.holds(0), 0);
    }

    private static void holds() {
        MerchantYard y = new MerchantYard();
        A.due("ahead of any", y.holds(0), -1);
        y.hand(0, 5, 5, 4);
        y.hand(1, 0, 0, 1);
        y.hand(2, 7, 3, 8);
        // hands 0 and 1 don't mind (5 - 5, and 0), hand 2 breaks in any case
        A.due("as one likes", y.breakers(3), 4);
        int[] sets = {4, 5, 6, 7};
        for (int k = 0; k < 4; k++) {
            A.due("set " + k, y.holds(k), sets[k]);
        }
        A.due("-1", y.holds(-1), -1);
        A.due("4", y.holds(4), -1);
        y.hand(2, 0, 0, 1);
        A.due("the latest breakers() counts", y.holds(0), 4);
        for (int k = 0; k < 8; k++) {
            y.hand(k, 0, 9, 1);
        }
        A.due("all sets", y.breakers(8), 256);
        A.due("the last", y.holds(255), 255);
        A.due("behind", y.holds(256), -1);
        for (int k = 0; k < 8; k++) {
            y.hand(k, 1, 2, 8);
        }
        A.due("none or all", y.breakers(8), 2);
        A.due("all", y.holds(1), 255);
        y.hand(0, 1, 2, 2);
        y.hand(1, 2, 1, 8);
        // hand 1 breaks alone, then hand 0 is one of two
        A.due("a crowd that grows", y.breakers(2), 1);
        A.due("both", y.holds(0), 3);
    }
}
