import java.util.ArrayList;
import java.util.List;
import java.util.Random;

/** Promises 30, 31, 37 to 39, 43, 44, 47 and 48 on random scenes, against searches through everything. */
public final class PlanOracleTest {
    private static final Answers A = new Answers("PlanOracleTest");

    public static void main(String[] args) {
        Random random = new Random(20260202);
        for (int run = 0; run < 400; run++) {
            plan(random);
            breakers(random);
            books(random);
            spans(random);
        }
        A.end();
    }

    // ---- the plan

    private static void plan(Random random) {
        MerchantYard y = new MerchantYard();
        y.man(0, false, 0);
        int lots = random.nextInt(8);
        int[] kinds = new int[lots];
        int[] amounts = new int[lots];
        for (int k = 0; k < lots; k++) {
            kinds[k] = random.nextInt(3);
            amounts[k] = 1 + random.nextInt(9);
            y.bring(0, kinds[k], amounts[k]);
        }
        int ships = random.nextInt(7);
        int[] days = new int[ships];
        int[] towns = new int[ships];
        int[] rooms = new int[ships];
        for (int k = 0; k < ships; k++) {
            days[k] = random.nextInt(6);
            towns[k] = random.nextInt(4);
            rooms[k] = 1 + random.nextInt(25);
            y.ship(towns[k], days[k], 1, rooms[k]);
        }
        int[][] low = new int[9][3];
        int[][] high = new int[9][3];
        for (int k = 0; k < 20; k++) {
            int town = random.nextInt(5) == 4 ? 8 : random.nextInt(4);
            int kind = random.nextInt(3);
            low[town][kind] = random.nextInt(4);
            high[town][kind] = low[town][kind] + random.nextInt(3);
            y.news(town, kind, low[town][kind], high[town][kind]);
        }
        int now = random.nextInt(3);
        y.clock(now);
        List<Integer> open = new ArrayList<>();
        for (int day = now; day < 6; day++) {
            for (int k = 0; k < ships; k++) {
                if (days[k] == day && open.size() < 4) {
                    open.add(k);
                }
            }
        }
        int n = Math.min(5, lots);
        int ways = open.size() + 1;
        long bestLow = -1;
        long bestHigh = -1;
        int[] best = new int[n];
        for (int code = 0; code < Math.pow(ways, n); code++) {
            int[] left = rooms.clone();
            int[] way = new int[n];
            long lows = 0;
            long highs = 0;
            boolean fits = true;
            for (int k = n - 1, rest = code; k >= 0; k--, rest /= ways) {
                way[k] = rest % ways;
                int town = way[k] == ways - 1 ? 8 : towns[open.get(way[k])];
                if (town != 8) {
                    left[open.get(way[k])] -= amounts[k];
                    fits &= left[open.get(way[k])] >= 0;
                }
                lows += (long) amounts[k] * low[town][kinds[k]];
                highs += (long) amounts[k] * high[town][kinds[k]];
            }
            if (fits && (lows > bestLow || lows == bestLow && highs > bestHigh)) {
                bestLow = lows;
                bestHigh = highs;
                best = way;
            }
        }
        A.due("plan", y.plan(0), bestLow);
        A.due("high", y.high(), bestHigh);
        A.due("lots", y.planned(-1, 0), n);
        A.due("ships", y.planned(-1, 1), open.size());
        for (int k = 0; k < n; k++) {
            A.due("lot", y.planned(k, 0), k);
            A.due("ship", y.planned(k, 1), best[k] == ways - 1 ? -1 : open.get(best[k]));
        }
    }

    // ---- the breakers

    private static void breakers(Random random) {
        MerchantYard y = new MerchantYard();
        int n = 1 + random.nextInt(8);
        int[][] hands = new int[n][3];
        for (int k = 0; k < n; k++) {
            hands[k] = new int[] {random.nextInt(4), random.nextInt(6), 1 + random.nextInt(8)};
            y.hand(k, hands[k][0], hands[k][1], hands[k][2]);
        }
        List<Integer> due = new ArrayList<>();
        for (int set = 0; set < 1 << n; set++) {
            boolean holds = true;
            for (int k = 0; k < n; k++) {
                int other = set ^ 1 << k;
                holds &= share(hands, set, k) >= share(hands, other, k);
            }
            if (holds) {
                due.add(set);
            }
        }
        A.due("breakers", y.breakers(n), due.size());
        for (int k = 0; k <= due.size(); k++) {
            A.due("holds", y.holds(k), k < due.size() ? due.get(k) : -1);
        }
    }

    private static int share(int[][] hands, int set, int k) {
        if ((set >> k & 1) == 0) {
            return 0;
        }
        return Integer.bitCount(set) < hands[k][2] ? hands[k][0] - hands[k][1] : hands[k][0];
    }

    // ---- the books

    private static void books(Random random) {
        MerchantYard y = new MerchantYard();
        y.man(0, false, 0);
        y.man(0, false, 0);
        int[][][] rows = new int[2][][];
        for (int book = 0; book < 2; book++) {
            rows[book] = new int[random.nextInt(6)][];
            for (int k = 0; k < rows[book].length; k++) {
                rows[book][k] = new int[] {random.nextInt(5), random.nextInt(4) / 3, random.nextInt(6)};
                y.entry(book, rows[book][k][0], rows[book][k][1], rows[book][k][2]);
            }
        }
        int coins = random.nextInt(5);
        int days = random.nextInt(4);
        int[] best = best(rows, coins, days, 0, new boolean[rows[1].length]);
        A.due("join", y.join(coins, days), -best[0]);
        A.due("coins", y.joined(-1), best[1]);
        A.due("days", y.joined(-2), best[2]);
        for (int k = 0; k < rows[0].length; k++) {
            int size = rows[1].length;
            A.due("pair", y.joined(k), best[3 + k] == size ? -1 : best[3 + k]);
        }
    }

    /** Less is better, from the first number on: pairs below 0, coins, days, then the partner of each of ours. */
    private static int[] best(int[][][] rows, int coins, int days, int i, boolean[] used) {
        if (i == rows[0].length) {
            return new int[3 + i];
        }
        int[] found = best(rows, coins, days, i + 1, used);
        found[3 + i] = rows[1].length;
        for (int j = 0; j < rows[1].length; j++) {
            int c = Math.abs(rows[0][i][2] - rows[1][j][2]);
            int d = Math.abs(rows[0][i][0] - rows[1][j][0]);
            if (!used[j] && rows[0][i][1] == rows[1][j][1] && c <= coins && d <= days) {
                used[j] = true;
                int[] other = best(rows, coins, days, i + 1, used);
                used[j] = false;
                other[0]--;
                other[1] += c;
                other[2] += d;
                other[3 + i] = j;
                if (java.util.Arrays.compare(other, found) < 0) {
                    found = other;
                }
            }
        }
        return found;
    }

    // ---- the measures

    private static void spans(Random random) {
        MerchantYard y = new MerchantYard();
        List<int[]> rows = new ArrayList<>();
        int n = random.nextInt(9);
        for (int k = 0; k < n; k++) {
            int a = 2 + random.nextInt(30);
            int b = Math.max(1, a / 2 + random.nextInt(4) - (random.nextInt(6) == 0 ? 9 : 0));
            y.clock(k);
            y.weigh(3, a, b);
            rows.add(new int[] {a, b, k, 99});
            if (random.nextInt(4) == 0) {
                int back = random.nextInt(k + 1);
                if (y.takeBack(back)) {
                    rows.get(back)[3] = k;
                }
            }
        }
        int day = random.nextInt(10);
        int lower = -1;
        int upper = -1;
        int greater = -1;
        int lesser = -1;
        for (int k = 0; k < n; k++) {
            int[] r = rows.get(k);
            if (r[2] <= day && day < r[3]) {
                lower = lower < 0 || low(r) > low(rows.get(lower)) ? k : lower;
                upper = upper < 0 || high(r) < high(rows.get(upper)) ? k : upper;
                for (int j = 0; j < k && greater < 0; j++) {
                    int[] s = rows.get(j);
                    if (s[2] <= day && day < s[3] && (low(r) > high(s) || low(s) > high(r))) {
                        greater = k;
                        lesser = j;
                    }
                }
            }
        }
        int[] due = {lower < 0 ? 0 : rows.get(lower)[1] - 1, lower < 0 ? 1 : rows.get(lower)[0] + 1,
            upper < 0 ? 1 : rows.get(upper)[1] + 1, upper < 0 ? 0 : rows.get(upper)[0] - 1, lesser, greater};
        for (int what = 0; what < 6; what++) {
            A.due("span " + what, y.span(3, day, what), due[what]);
        }
        int ours = random.nextInt(100);
        A.due("least", y.theirs(3, ours, day, 0), greater >= 0 ? -2 : Math.floorDiv(ours * due[0], due[1]));
        int most = due[3] == 0 ? 2000000000 : -Math.floorDiv(-ours * due[2], Math.max(1, due[3]));
        A.due("most", y.theirs(3, ours, day, 1), greater >= 0 ? -2 : most);
    }

    /** Exact enough: numbers so small that unlike fractions differ by more than a double's grain. */
    private static double low(int[] r) {
        return (double) (r[1] - 1) / (r[0] + 1);
    }

    private static double high(int[] r) {
        return (double) (r[1] + 1) / (r[0] - 1);
    }
}
