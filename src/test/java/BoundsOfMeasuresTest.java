/** The bounds that promises 28 to 33 and parts IV and V name, a test for each sentence, on both sides of the bound. */
public final class BoundsOfMeasuresTest {
    private static final Answers A = new Answers("BoundsOfMeasuresTest");

    public static void main(String[] args) {
        weighingsAHundred();
        weighValues();
        takeBackOnce();
        knownFromItsDayOn();
        takenBackFromADayOn();
        spanValues();
        spanWithoutAny();
        spanEnds();
        spanAlikeTheFirstTold();
        spanOfLargeNumbers();
        quarrelIfTheLowerIsAbove();
        quarrelOfAllPairs();
        quarrelOfThoseKnown();
        quarrelOfTheLast();
        theirsValues();
        theirsRounds();
        theirsUpToTwoThousandMillion();
        theirsWithoutAny();
        theirsOfAQuarrel();
        orderTowns();
        orderUnlike();
        orderDays();
        orderAtFirst();
        elderDays();
        elderTermsFirstAndLastDay();
        elderThereOnTheFirstDay();
        elderTheNextTownRound();
        elderByNow();
        A.end();
    }

    private static void span(MerchantYard y, String what, int kind, int day, int... due) {
        for (int i = 0; i < due.length; i++) {
            A.due(what + ", what " + i, y.span(kind, day, i), due[i]);
        }
    }

    // ---- measures

    /** Promise 28: WEIGHINGS, 100 at most; those TAKEN BACK are of them. */
    private static void weighingsAHundred() {
        MerchantYard y = new MerchantYard();
        for (int k = 0; k < 99; k++) {
            y.weigh(0, 50, 50);
        }
        y.takeBack(0);
        A.due("the 100th", y.weigh(7, 2, 9), 99);
        A.due("the 101st", y.weigh(6, 2, 9), -1);
        A.due("WEIGHINGS", y.count(5), 100);
        A.due("the 100th is known", y.span(7, 0, 0), 8);
        A.due("the 101st is not", y.span(6, 0, 1), 1);
        A.no("takes back no 101st", y.takeBack(100));
        A.yes("takes back the 100th", y.takeBack(99));
    }

    /** Promise 28: of a KIND: ours a (2 to 100000), theirs b (1 to 100000). */
    private static void weighValues() {
        MerchantYard y = new MerchantYard();
        A.due("kind -1", y.weigh(-1, 5, 5), -1);
        A.due("kind 8", y.weigh(8, 5, 5), -1);
        A.due("ours 1", y.weigh(0, 1, 5), -1);
        A.due("ours 100001", y.weigh(0, 100001, 5), -1);
        A.due("theirs 0", y.weigh(0, 5, 0), -1);
        A.due("theirs 100001", y.weigh(0, 5, 100001), -1);
        A.due("WEIGHINGS", y.count(5), 0);
        A.due("kind 0, ours 2", y.weigh(0, 2, 5), 0);
        A.due("kind 7, ours 100000", y.weigh(7, 100000, 5), 1);
        A.due("theirs 1", y.weigh(1, 5, 1), 2);
        A.due("theirs 100000", y.weigh(2, 5, 100000), 3);
        span(y, "ours 2", 0, 0, 4, 3, 6, 1);
        span(y, "ours 100000", 7, 0, 4, 100001, 6, 99999);
        span(y, "theirs 1", 1, 0, 0, 6, 2, 4);
        span(y, "theirs 100000", 2, 0, 99999, 6, 100001, 4);
    }

    /** Promise 29: false, and nothing happens: none such, or TAKEN BACK already. */
    private static void takeBackOnce() {
        MerchantYard y = new MerchantYard();
        A.no("0 of none", y.takeBack(0));
        y.weigh(0, 5, 5);
        y.weigh(0, 6, 6);
        y.clock(4);
        A.no("-1", y.takeBack(-1));
        A.no("2", y.takeBack(2));
        A.yes("1", y.takeBack(1));
        A.yes("0", y.takeBack(0));
        y.clock(6);
        A.no("0 again", y.takeBack(0));
        span(y, "known on 3 still", 0, 3, 5, 7, 7, 5);
        span(y, "not on 4", 0, 4, 0, 1, 1, 0);
    }

    /** IV: KNOWN from the DAY on which it is told. */
    private static void knownFromItsDayOn() {
        MerchantYard y = new MerchantYard();
        y.clock(5);
        y.weigh(0, 5, 5);
        span(y, "the day ahead", 0, 4, 0, 1, 1, 0);
        span(y, "its day", 0, 5, 4, 6, 6, 4);
        span(y, "the last day", 0, 3999, 4, 6, 6, 4);
        A.due("most of the day ahead", y.theirs(0, 2, 4, 1), 2000000000);
        A.due("most of its day", y.theirs(0, 2, 5, 1), 3);
    }

    /** IV: TAKEN BACK from a DAY on. */
    private static void takenBackFromADayOn() {
        MerchantYard y = new MerchantYard();
        y.weigh(0, 5, 5);
        y.weigh(1, 5, 5);
        y.takeBack(1);
        y.clock(5);
        y.takeBack(0);
        span(y, "the day ahead", 0, 4, 4, 6, 6, 4);
        span(y, "that day", 0, 5, 0, 1, 1, 0);
        span(y, "the last day", 0, 3999, 0, 1, 1, 0);
        span(y, "told and taken back on one day", 1, 0, 0, 1, 1, 0);
    }

    /** Promise 30: NONE without a KIND, a DAY, or for another what. */
    private static void spanValues() {
        MerchantYard y = new MerchantYard();
        y.weigh(0, 5, 5);
        y.weigh(7, 5, 5);
        A.due("kind -1", y.span(-1, 0, 0), -1);
        A.due("kind 0", y.span(0, 0, 0), 4);
        A.due("kind 7", y.span(7, 0, 0), 4);
        A.due("kind 8", y.span(8, 0, 0), -1);
        A.due("day -1", y.span(0, -1, 0), -1);
        A.due("day 0", y.span(0, 0, 1), 6);
        A.due("day 3999", y.span(0, 3999, 1), 6);
        A.due("day 4000", y.span(0, 4000, 0), -1);
        A.due("what -1", y.span(0, 0, -1), -1);
        A.due("what 6", y.span(0, 0, 6), -1);
    }

    /** IV: without any: 0 / 1 to 1 / 0. */
    private static void spanWithoutAny() {
        MerchantYard y = new MerchantYard();
        for (int kind = 0; kind < 8; kind++) {
            span(y, "kind " + kind, kind, 0, 0, 1, 1, 0, -1, -1);
        }
        y.weigh(3, 2, 1);
        span(y, "a lower end of 0 that was weighed", 3, 0, 0, 3, 2, 1, -1, -1);
    }

    /** IV: the greatest of the lower ends, the least of the upper ends. */
    private static void spanEnds() {
        MerchantYard y = new MerchantYard();
        y.weigh(0, 10, 20);
        span(y, "of one", 0, 0, 19, 11, 21, 9, -1, -1);
        y.weigh(0, 100, 190);
        span(y, "a greater lower end, a lesser upper end", 0, 0, 189, 101, 191, 99, -1, -1);
        y.weigh(0, 9, 18);
        span(y, "a wider one", 0, 0, 189, 101, 191, 99, -1, -1);
        y.weigh(0, 1000, 1910);
        span(y, "a narrower one", 0, 0, 1909, 1001, 1911, 999, -1, -1);
        y.weigh(1, 1000, 1910);
        span(y, "another KIND", 1, 0, 1909, 1001, 1911, 999, -1, -1);
        y.weigh(1, 10, 20);
        span(y, "the other way round", 1, 0, 1909, 1001, 1911, 999, -1, -1);
    }

    /** IV: each as its own fraction, of alike ones the first told. */
    private static void spanAlikeTheFirstTold() {
        MerchantYard y = new MerchantYard();
        y.weigh(0, 5, 3);
        y.weigh(0, 11, 5);
        span(y, "2/6 and 4/12", 0, 0, 2, 6, 6, 10);
        y.weigh(1, 11, 5);
        y.weigh(1, 5, 3);
        span(y, "4/12 and 2/6", 1, 0, 4, 12, 6, 10);
        y.weigh(2, 5, 3);
        y.weigh(2, 9, 7);
        span(y, "4/4 and 8/8", 2, 0, 6, 10, 4, 4);
        y.weigh(3, 9, 7);
        y.weigh(3, 5, 3);
        span(y, "8/8 and 4/4", 3, 0, 6, 10, 8, 8);
        y.weigh(4, 9, 1);
        y.weigh(4, 2, 1);
        span(y, "0/10 and 0/3", 4, 0, 0, 10, 2, 8);
        y.clock(1);
        y.takeBack(6);
        span(y, "the first TAKEN BACK", 3, 1, 2, 6, 4, 4);
    }

    /** IV: fractions that differ in the last place of products above 32 bits. */
    private static void spanOfLargeNumbers() {
        MerchantYard y = new MerchantYard();
        y.weigh(0, 99999, 100000);
        y.weigh(0, 100000, 100000);
        // 99999/100000 to 100001/99998, then 99999/100001 to 100001/99999
        span(y, "a lower end of the first, an upper end of the second", 0, 0, 99999, 100000, 100001, 99999, -1, -1);
        y.weigh(1, 100000, 99999);
        y.weigh(1, 99999, 99998);
        // 99998/100001 and 99997/100000; 100000/99999 and 99999/99998
        span(y, "products that differ by 1 and more", 1, 0, 99998, 100001, 100000, 99999, -1, -1);
        y.weigh(2, 2, 100000);
        y.weigh(2, 100000, 2);
        span(y, "far apart", 2, 0, 99999, 3, 3, 99999, 4, 5);
    }

    /** IV: they QUARREL if the lower is above the upper; alike ends don't. */
    private static void quarrelIfTheLowerIsAbove() {
        MerchantYard y = new MerchantYard();
        y.weigh(0, 100, 98);
        y.weigh(0, 99, 101);
        span(y, "100/100 and 99/99", 0, 0, 100, 100, 99, 99, -1, -1);
        y.weigh(1, 100, 98);
        y.weigh(1, 98, 101);
        span(y, "100/99 above 99/99", 1, 0, 100, 99, 99, 99, 2, 3);
        y.weigh(2, 98, 101);
        y.weigh(2, 100, 98);
        span(y, "99/99 below 100/99", 2, 0, 100, 99, 99, 99, 4, 5);
        y.weigh(3, 99, 101);
        y.weigh(3, 100, 98);
        span(y, "99/99 and 100/100", 3, 0, 100, 100, 99, 99, -1, -1);
        y.weigh(4, 100000, 100000);
        y.weigh(4, 99998, 100000);
        span(y, "100001/99999 and 99999/99999", 4, 0, 99999, 99999, 100001, 99999, -1, -1);
        y.weigh(5, 100000, 99998);
        y.weigh(5, 99998, 100000);
        span(y, "99999/99999, alike", 5, 0, 99999, 99999, 99999, 99999, -1, -1);
        y.weigh(6, 100000, 99998);
        y.weigh(6, 99997, 100000);
        span(y, "99999/99998 above 99999/99999", 6, 0, 99999, 99998, 99999, 99999, 12, 13);
    }

    /** IV: the first two, by numbers (the greater one least, then the lesser one), that bar each other. */
    private static void quarrelOfAllPairs() {
        MerchantYard y = new MerchantYard();
        y.weigh(0, 100, 300);
        y.weigh(0, 100, 302);
        y.weigh(0, 100, 298);
        y.weigh(1, 100, 100);
        span(y, "none of three", 0, 0, 301, 101, 299, 99, -1, -1);
        y.weigh(0, 100, 307);
        // 306/101 above 299/99 of 2, below 301/99 of 0
        span(y, "the last with the third", 0, 0, 306, 101, 299, 99, 2, 4);
        y.weigh(0, 100, 100);
        span(y, "a greater one later", 0, 0, 306, 101, 101, 99, 2, 4);
        y.weigh(2, 100, 100);
        y.weigh(2, 100, 101);
        y.weigh(2, 100, 200);
        span(y, "the lesser one least", 2, 0, 199, 101, 101, 99, 6, 8);
        y.weigh(3, 100, 200);
        y.weigh(3, 100, 101);
        y.weigh(3, 100, 100);
        span(y, "the greater one least", 3, 0, 199, 101, 101, 99, 9, 10);
    }

    /** IV: of those KNOWN then. */
    private static void quarrelOfThoseKnown() {
        MerchantYard y = new MerchantYard();
        y.weigh(0, 100, 100);
        y.clock(2);
        y.weigh(0, 100, 200);
        y.weigh(0, 100, 300);
        y.clock(4);
        y.takeBack(1);
        y.clock(6);
        y.takeBack(0);
        int[] lesser = {-1, -1, 0, 0, 0, 0, -1, -1};
        int[] greater = {-1, -1, 1, 1, 2, 2, -1, -1};
        for (int day = 0; day < 8; day++) {
            A.due("lesser on " + day, y.span(0, day, 4), lesser[day]);
            A.due("greater on " + day, y.span(0, day, 5), greater[day]);
            A.due("theirs on " + day, y.theirs(0, 0, day, 0), lesser[day] < 0 ? 0 : -2);
        }
    }

    /** IV: of all 100. */
    private static void quarrelOfTheLast() {
        MerchantYard y = new MerchantYard();
        for (int k = 0; k < 98; k++) {
            y.weigh(1, 100, 100);
        }
        y.weigh(0, 100, 100);
        y.weigh(0, 100, 200);
        span(y, "of the last two", 0, 0, 199, 101, 101, 99, 98, 99);
        span(y, "of those ahead of them none", 1, 0, 99, 101, 101, 99, -1, -1);
    }

    /** Promise 31: so much of ours (0 to 1000000), of a KIND, on a DAY, what 0 and 1; NONE without these. */
    private static void theirsValues() {
        MerchantYard y = new MerchantYard();
        y.weigh(0, 3, 3);
        y.weigh(7, 3, 3);
        A.due("kind -1", y.theirs(-1, 4, 0, 0), -1);
        A.due("kind 0", y.theirs(0, 4, 0, 0), 2);
        A.due("kind 7", y.theirs(7, 4, 0, 0), 2);
        A.due("kind 8", y.theirs(8, 4, 0, 0), -1);
        A.due("ours -1", y.theirs(0, -1, 0, 0), -1);
        A.due("ours 0", y.theirs(0, 0, 0, 0), 0);
        A.due("ours 0, most", y.theirs(0, 0, 0, 1), 0);
        A.due("ours 1000000", y.theirs(0, 1000000, 0, 0), 500000);
        A.due("ours 1000000, most", y.theirs(0, 1000000, 0, 1), 2000000);
        A.due("ours 1000001", y.theirs(0, 1000001, 0, 0), -1);
        A.due("day -1", y.theirs(0, 4, -1, 0), -1);
        A.due("day 3999", y.theirs(0, 4, 3999, 0), 2);
        A.due("day 4000", y.theirs(0, 4, 4000, 0), -1);
        A.due("what -1", y.theirs(0, 4, 0, -1), -1);
        A.due("what 2", y.theirs(0, 4, 0, 2), -1);
    }

    /** IV: from amount * lower downwards, to amount * upper upwards. */
    private static void theirsRounds() {
        MerchantYard y = new MerchantYard();
        y.weigh(0, 4, 3);
        // 2/5 to 4/3
        int[] least = {0, 0, 0, 1, 1, 2, 2, 2, 3};
        int[] most = {0, 2, 3, 4, 6, 7, 8, 10, 11};
        for (int ours = 0; ours < 9; ours++) {
            A.due("least of " + ours, y.theirs(0, ours, 0, 0), least[ours]);
            A.due("most of " + ours, y.theirs(0, ours, 0, 1), most[ours]);
        }
    }

    /** IV: 2000000000 if that is more. */
    private static void theirsUpToTwoThousandMillion() {
        MerchantYard y = new MerchantYard();
        y.weigh(0, 4, 29094);
        A.due("most 1999999999", y.theirs(0, 206221, 0, 1), 1999999999);
        y.weigh(1, 3, 3999);
        A.due("most 2000000000", y.theirs(1, 1000000, 0, 1), 2000000000);
        A.due("most below", y.theirs(1, 999999, 0, 1), 1999998000);
        y.weigh(2, 3, 5968);
        A.due("most 2000000001", y.theirs(2, 670129, 0, 1), 2000000000);
        y.weigh(3, 2, 16938);
        A.due("least 1999999999", y.theirs(3, 354254, 0, 0), 1999999999);
        y.weigh(4, 2, 6001);
        A.due("least 2000000000", y.theirs(4, 1000000, 0, 0), 2000000000);
        y.weigh(5, 3, 9446);
        A.due("least 2000000001", y.theirs(5, 847009, 0, 0), 2000000000);
        y.weigh(6, 2, 100000);
        A.due("the greatest most", y.theirs(6, 1000000, 0, 1), 2000000000);
        A.due("the greatest least", y.theirs(6, 1000000, 0, 0), 2000000000);
    }

    /** IV: 2000000000 without an end. */
    private static void theirsWithoutAny() {
        MerchantYard y = new MerchantYard();
        for (int ours : new int[] {0, 1, 1000000}) {
            A.due("least of " + ours, y.theirs(3, ours, 0, 0), 0);
            A.due("most of " + ours, y.theirs(3, ours, 0, 1), 2000000000);
        }
    }

    /** Promise 31: -2: they QUARREL; NONE without a what comes first. */
    private static void theirsOfAQuarrel() {
        MerchantYard y = new MerchantYard();
        y.weigh(0, 100, 98);
        y.weigh(0, 98, 101);
        y.weigh(1, 100, 98);
        y.weigh(1, 99, 101);
        A.due("least", y.theirs(0, 5, 0, 0), -2);
        A.due("most", y.theirs(0, 5, 0, 1), -2);
        A.due("of nothing", y.theirs(0, 0, 0, 1), -2);
        A.due("what 2", y.theirs(0, 5, 0, 2), -1);
        A.due("ours 1000001", y.theirs(0, 1000001, 0, 1), -1);
        A.due("alike ends, least", y.theirs(1, 5, 0, 0), 5);
        A.due("alike ends, most", y.theirs(1, 5, 0, 1), 5);
    }

    // ---- elders

    /** Promise 32: n TOWNS, 1 to 8, four bits each, the first one lowest; others don't matter. */
    private static void orderTowns() {
        MerchantYard y = new MerchantYard();
        for (int town = 0; town < 8; town++) {
            y.man(town, false, 1);
        }
        A.no("0", y.order(0, 0, 1));
        A.no("-1", y.order(-1, 0, 1));
        A.no("9", y.order(9, 0x876543210L, 1));
        A.due("TOWN 0 alone still", y.elder(90), 0);
        A.yes("1", y.order(1, 0x3, 1));
        A.due("alone", y.elder(0) * 10 + y.elder(1), 33);
        A.yes("8", y.order(8, 0x01234567, 1));
        for (int day = 0; day < 9; day++) {
            A.due("on " + day, y.elder(day), 7 - day % 8);
        }
        A.yes("others don't matter", y.order(2, 0xffffffffffff8865L, 1));
        A.due("5 and 6", y.elder(0) * 10 + y.elder(1), 56);
        A.yes("the highest bit", y.order(8, 0xffffffff76543210L, 1));
        A.due("the last of eight", y.elder(7), 7);
        for (int place = 0; place < 8; place++) {
            A.no("TOWN 8 as number " + place, y.order(8, 0x76543210L | 8L << 4 * place, 1));
            A.no("TOWN 15 as number " + place, y.order(8, 0x76543210L | 15L << 4 * place, 1));
            A.yes("TOWN 8 behind " + place, place == 0 || y.order(place, 0x76543210L | 8L << 4 * place, 1));
        }
        y.order(8, 0x76543210L, 1);
        A.no("TOWN 8", y.order(1, 8, 1));
        A.due("as it was", y.elder(3), 3);
    }

    /** V: of unlike TOWNS. */
    private static void orderUnlike() {
        MerchantYard y = new MerchantYard();
        y.man(5, false, 1);
        y.order(1, 5, 1);
        A.no("0 and 0", y.order(2, 0x00, 1));
        A.no("the first and the last of eight", y.order(8, 0x06543210L, 1));
        A.no("the last two of eight", y.order(8, 0x66543210L, 1));
        A.no("7 and 7", y.order(2, 0x77, 1));
        A.due("as it was", y.elder(0), 0);
        A.yes("7 and 7, of which one matters", y.order(1, 0x77, 1));
        A.due("then", y.elder(0), -1);
    }

    /** V: TERMS of n DAYS, 1 to 400. */
    private static void orderDays() {
        MerchantYard y = new MerchantYard();
        y.man(0, false, 1);
        y.man(1, false, 1);
        A.no("0", y.order(2, 0x01, 0));
        A.no("-1", y.order(2, 0x01, -1));
        A.no("401", y.order(2, 0x01, 401));
        A.due("as it was", y.elder(0), 0);
        A.yes("1", y.order(2, 0x01, 1));
        A.due("days 0 to 3", y.elder(0) * 1000 + y.elder(1) * 100 + y.elder(2) * 10 + y.elder(3), 1010);
        A.yes("400", y.order(2, 0x10, 400));
        A.due("day 399", y.elder(399), 0);
        A.due("day 400", y.elder(400), 1);
        A.due("day 799", y.elder(799), 1);
        A.due("day 800", y.elder(800), 0);
        A.due("day 3999", y.elder(3999), 1);
    }

    /** V: 90 at first; TOWN 0 alone at first. */
    private static void orderAtFirst() {
        MerchantYard y = new MerchantYard();
        y.man(1, false, 1);
        y.clock(1);
        y.man(0, false, 1);
        A.due("day 0", y.elder(0), -1);
        A.due("day 1, behind the TERM's first", y.elder(1), -1);
        A.due("day 89", y.elder(89), -1);
        A.due("day 90", y.elder(90), 1);
        A.due("day 180", y.elder(180), 1);
    }

    /** Promise 33: NONE: no such DAY. */
    private static void elderDays() {
        MerchantYard y = new MerchantYard();
        y.man(0, false, 1);
        A.due("day -1", y.elder(-1), -1);
        A.due("day 0", y.elder(0), 0);
        A.due("day 3999", y.elder(3999), 0);
        A.due("day 4000", y.elder(4000), -1);
        A.due("day MAX", y.elder(Integer.MAX_VALUE), -1);
        A.due("day MIN", y.elder(Integer.MIN_VALUE), -1);
    }

    /** V: of TERM d / n the TOWN of the ORDER with that number (of as many the rest). */
    private static void elderTermsFirstAndLastDay() {
        MerchantYard y = new MerchantYard();
        y.man(2, false, 1);
        y.man(6, false, 1);
        y.man(4, false, 1);
        y.order(3, 0x462, 7);
        for (int term = 0; term < 7; term++) {
            A.due("first day of " + term, y.elder(7 * term), term % 3);
            A.due("last day of " + term, y.elder(7 * term + 6), term % 3);
        }
        A.due("day 3999, of TERM 571", y.elder(3999), 1);
    }

    /** V: of its MEN that were there on the TERM's first DAY the least. */
    private static void elderThereOnTheFirstDay() {
        MerchantYard y = new MerchantYard();
        y.order(1, 0, 10);
        y.clock(9);
        y.man(0, false, 1);
        y.clock(10);
        y.man(0, false, 1);
        y.clock(11);
        y.man(0, false, 1);
        A.due("none was there on day 0", y.elder(9), -1);
        A.due("0 and 1 on day 10", y.elder(10), 0);
        y.clock(20);
        y.leave(0);
        A.due("left on day 20, there on day 10", y.elder(19), 0);
        A.due("left on day 20", y.elder(20), 1);
        y.clock(21);
        y.die(1);
        A.due("died on day 21, there on day 20", y.elder(20), 1);
        A.due("died on day 21", y.elder(30), 2);
        A.due("came on day 11", y.elder(29), 1);
    }

    /** V: without one the next TOWN of the ORDER, round; none if none has. */
    private static void elderTheNextTownRound() {
        MerchantYard y = new MerchantYard();
        y.order(8, 0x76543210L, 1);
        A.due("none has", y.elder(0), -1);
        y.man(8, false, 1);
        A.due("a LOCAL one is of no TOWN", y.elder(0), -1);
        y.man(5, false, 1);
        for (int day = 0; day < 16; day++) {
            A.due("the only one, on " + day, y.elder(day), 1);
        }
        y.man(2, false, 1);
        int[] due = {2, 2, 2, 1, 1, 1, 2, 2};
        for (int day = 0; day < 16; day++) {
            A.due("two, on " + day, y.elder(day), due[day % 8]);
        }
        y.order(2, 0x34, 1);
        A.due("none of the ORDER has", y.elder(0), -1);
    }

    /** V: MEN that came, left, died, as told by now. */
    private static void elderByNow() {
        MerchantYard y = new MerchantYard();
        A.due("ahead of him", y.elder(300), -1);
        y.man(0, false, 1);
        A.due("as told by now", y.elder(300), 0);
        y.clock(5);
        y.leave(0);
        A.due("as told by now", y.elder(300), -1);
        A.due("of the TERM in which he left", y.elder(5), 0);
        y.order(1, 1, 1);
        A.due("by the ORDER that is told now", y.elder(5), -1);
    }
}
