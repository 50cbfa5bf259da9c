/** Promises 28 to 31: weighings, spans, quarrels. */
public final class MeasuresTest {
    private static final Answers A = new Answers("MeasuresTest");

    public static void main(String[] args) {
        weigh();
        takeBack();
        span();
        quarrel();
        theirs();
        A.end();
    }

    private static void weigh() {
        MerchantYard y = new MerchantYard();
        A.due("kind -1", y.weigh(-1, 2, 1), -1);
        A.due("kind 8", y.weigh(8, 2, 1), -1);
        A.due("ours 1", y.weigh(0, 1, 1), -1);
        A.due("ours 100001", y.weigh(0, 100001, 1), -1);
        A.due("theirs 0", y.weigh(0, 2, 0), -1);
        A.due("theirs 100001", y.weigh(0, 2, 100001), -1);
        A.due("the least", y.weigh(0, 2, 1), 0);
        A.due("the most", y.weigh(7, 100000, 100000), 1);
        for (int k = 2; k < 100; k++) {
            A.due("weighing " + k, y.weigh(k % 8, 50, 50), k);
        }
        A.due("a 101st", y.weigh(0, 2, 1), -1);
        A.due("lower end of all", y.span(2, 0, 0), 49);
        A.due("upper end of all", y.span(2, 0, 2), 51);
        A.due("no quarrel of all", y.span(2, 0, 5), -1);
        A.no("none such", y.takeBack(100));
        y.takeBack(0);
        A.due("a 101st behind one taken back", y.weigh(0, 2, 1), -1);
        A.due("count", y.count(5), 100);
    }

    private static void takeBack() {
        MerchantYard y = new MerchantYard();
        y.clock(3);
        y.weigh(0, 10, 10);
        A.no("none such", y.takeBack(1));
        A.no("none such", y.takeBack(-1));
        y.clock(6);
        A.yes("taken back", y.takeBack(0));
        y.clock(7);
        A.no("already", y.takeBack(0));
        int[] lower = {0, 0, 0, 9, 9, 9, 0, 0};
        for (int day = 0; day < 8; day++) {
            A.due("known on " + day, y.span(0, day, 0), lower[day]);
        }
        y.weigh(1, 10, 10);
        y.takeBack(1);
        A.due("taken back on its own day", y.span(1, 7, 3), 0);
    }

    private static void ends(MerchantYard y, String what, int kind, int day, int... due) {
        for (int i = 0; i < due.length; i++) {
            A.due(what + ", span " + i, y.span(kind, day, i), due[i]);
        }
    }

    private static void span() {
        MerchantYard y = new MerchantYard();
        ends(y, "without any", 0, 0, 0, 1, 1, 0, -1, -1);
        y.weigh(0, 2, 1);
        ends(y, "a lower end of 0", 0, 0, 0, 3, 2, 1, -1, -1);
        y.weigh(0, 9, 1);
        ends(y, "0 as the first told", 0, 0, 0, 3, 2, 8, -1, -1);
        y.weigh(1, 5, 3);
        y.weigh(1, 11, 5);
        ends(y, "alike lower ends, the first told", 1, 0, 2, 6, 6, 10, -1, -1);
        y.weigh(2, 5, 3);
        y.weigh(2, 9, 7);
        ends(y, "alike upper ends, the first told", 2, 0, 6, 10, 4, 4, -1, -1);
        ends(y, "another day", 2, 3999, 6, 10, 4, 4, -1, -1);
        A.due("what 6", y.span(2, 0, 6), -1);
        A.due("what -1", y.span(2, 0, -1), -1);
        A.due("kind 8", y.span(8, 0, 1), -1);
        A.due("kind -1", y.span(-1, 0, 1), -1);
        A.due("day -1", y.span(0, -1, 1), -1);
        A.due("day 4000", y.span(0, 4000, 1), -1);
        y.weigh(3, 100000, 100000);
        ends(y, "the most", 3, 0, 99999, 100001, 100001, 99999, -1, -1);
    }

    private static void quarrel() {
        MerchantYard y = new MerchantYard();
        y.weigh(0, 100, 100);
        y.weigh(1, 100, 1);
        y.weigh(0, 100, 101);
        y.weigh(0, 100, 104);
        // 99/101 to 101/99, 100/101 to 102/99, 103/101 to 105/99
        ends(y, "the lower end touches nothing", 0, 0, 103, 101, 101, 99, -1, -1);
        y.weigh(0, 100, 90);
        // 89/101 to 91/99: below the lower ends of 0, 2 and 3
        ends(y, "the lesser one is the least", 0, 0, 103, 101, 91, 99, 0, 4);
        y.clock(1);
        y.weigh(0, 1000, 2000);
        A.due("the greater one is the least", y.span(0, 1, 5), 4);
        y.clock(2);
        y.takeBack(0);
        A.due("the next lesser one", y.span(0, 2, 4), 2);
        A.due("with it", y.span(0, 2, 5), 4);
        A.due("as known before", y.span(0, 1, 4), 0);
        y.takeBack(4);
        A.due("the next greater one", y.span(0, 2, 5), 5);
        A.due("and its lesser one", y.span(0, 2, 4), 2);
        A.due("they quarrel", y.theirs(0, 5, 2, 0), -2);
        A.due("they quarrel", y.theirs(0, 5, 2, 1), -2);
        A.due("others don't", y.theirs(1, 5, 2, 1), 1);
        y.weigh(5, 4, 4);
        y.weigh(5, 3, 7);
        // 3/5 to 5/3 and 6/4 to 8/2
        A.due("ends that overlap", y.span(5, 2, 5), -1);
        y.weigh(6, 4, 2);
        y.weigh(6, 2, 4);
        // 1/5 to 3/3 and 3/3 to 5/1
        A.due("alike ends don't quarrel", y.span(6, 2, 4), -1);
        A.due("alike ends", y.theirs(6, 7, 2, 0) * 100 + y.theirs(6, 7, 2, 1), 707);
    }

    private static void theirs() {
        MerchantYard y = new MerchantYard();
        A.due("least without any", y.theirs(0, 1000000, 0, 0), 0);
        A.due("most without any", y.theirs(0, 1, 0, 1), 2000000000);
        A.due("most of nothing without any", y.theirs(0, 0, 0, 1), 2000000000);
        y.weigh(0, 2, 100000);
        A.due("more", y.theirs(0, 1000000, 0, 1), 2000000000);
        A.due("more of the least", y.theirs(0, 1000000, 0, 0), 2000000000);
        A.due("least", y.theirs(0, 100, 0, 0), 3333300);
        A.due("most", y.theirs(0, 100, 0, 1), 10000100);
        A.due("nothing", y.theirs(0, 0, 0, 0), 0);
        A.due("nothing", y.theirs(0, 0, 0, 1), 0);
        y.weigh(1, 6, 4);
        A.due("downwards", y.theirs(1, 10, 0, 0), 4);
        A.due("upwards", y.theirs(1, 11, 0, 1), 11);
        y.weigh(1, 7, 4);
        A.due("upwards of 11 * 5 / 6", y.theirs(1, 11, 0, 1), 10);
        A.due("whole", y.theirs(1, 12, 0, 1), 10);
        A.due("ours -1", y.theirs(1, -1, 0, 0), -1);
        A.due("ours 1000001", y.theirs(1, 1000001, 0, 0), -1);
        A.due("kind -1", y.theirs(-1, 1, 0, 0), -1);
        A.due("kind 8", y.theirs(8, 1, 0, 0), -1);
        A.due("day -1", y.theirs(1, 1, -1, 0), -1);
        A.due("day 4000", y.theirs(1, 1, 4000, 0), -1);
        A.due("what 2", y.theirs(1, 1, 0, 2), -1);
        A.due("what -1", y.theirs(1, 1, 0, -1), -1);
        y.weigh(1, 7, 4000);
        A.due("what 2 of a quarrel", y.theirs(1, 1, 0, 2), -1);
        A.due("a quarrel", y.theirs(1, 1, 0, 1), -2);
    }
}
