import java.util.ArrayList;
import java.util.Arrays;
import java.util.Comparator;
import java.util.HashMap;
import java.util.HashSet;
import java.util.List;
import java.util.Map;
import java.util.Set;
import java.util.TreeMap;

/**
 * The document's face a second time, plain and slow, and built in another way than the class: WholeOracleTest holds the
 * class against it call by call.
 */
final class SecondYard {
    private static final class Man {
        int town;
        boolean winterer;
        int purse;
        int came;
        int gone = -1;
        int broke;
        final Set<Integer> sailed = new HashSet<>();
    }

    private static final class Lot {
        int kind;
        int amount;
        int man;
        int from;
        int first;
    }

    /** What is owed to one, or to the chest of a town when to is -1. */
    private static final class Debt {
        int debtor;
        int to;
        int town;
        int coins;
    }

    private static final class Surety {
        int man;
        final Debt claim = new Debt();
    }

    private static final class Bargain {
        int seller;
        int buyer;
        int lot;
        int price;
        int till;
        int fine;
        int day;
        final Debt rest = new Debt();
        final List<Surety> sureties = new ArrayList<>();
    }

    private static final class Law {
        int rank;
        int binds;
        int told;
        List<SecondLaw.Clause> clauses;
    }

    private static final class Port {
        int town;
        int first;
        int last;
        int read = -1;
    }

    private static final class Weighing {
        int kind;
        long ours;
        long theirs;
        int told;
        int back = Integer.MAX_VALUE;
    }

    private static final class Ship {
        int number;
        int town;
        int day;
        int coming;
        int room;
    }

    private static final class News {
        int town;
        int kind;
        int low;
        int high;
        int day;
    }

    private static final class Entry {
        int day;
        int man;
        int coins;
    }

    private int now;
    private final List<Man> men = new ArrayList<>();
    private final List<Lot> lots = new ArrayList<>();
    private final List<Bargain> bargains = new ArrayList<>();
    private final int[] chests = new int[10];
    private String tape = "";
    private final List<Law> laws = new ArrayList<>();
    private int toldLaw = -1;
    private int toldClause = -1;
    private final List<Port> ports = new ArrayList<>();
    private final List<Weighing> weighings = new ArrayList<>();
    private List<Integer> turns = List.of(0);
    private int term = 90;
    private final List<Ship> ships = new ArrayList<>();
    private final List<News> news = new ArrayList<>();
    private int[][] plan;
    private int planShips;
    private long planHigh = -1;
    private final List<int[]> hands = new ArrayList<>();
    private List<Integer> holding = new ArrayList<>();
    private final List<List<Entry>> books = List.of(new ArrayList<>(), new ArrayList<>());
    private int[] pairing;

    // ---- I.

    boolean clock(int day) {
        boolean later = day >= now && day < 4000;
        now = later ? day : now;
        return later;
    }

    int man(int town, boolean winterer, int coins) {
        if (men.size() == 40 || town < 0 || town > 8 || coins < 0 || coins > 1000000) {
            return -1;
        }
        Man man = new Man();
        man.town = town;
        man.winterer = winterer;
        man.purse = coins;
        man.came = now;
        men.add(man);
        return men.size() - 1;
    }

    boolean leave(int man) {
        if (!there(man)) {
            return false;
        }
        men.get(man).gone = now;
        return true;
    }

    int die(int man) {
        if (!there(man)) {
            return -2;
        }
        Man dead = men.get(man);
        dead.gone = now;
        TreeMap<Long, Debt> order = new TreeMap<>();
        for (int k = 0; k < bargains.size(); k++) {
            Bargain one = bargains.get(k);
            if (one.buyer == man && one.rest.coins > 0) {
                order.put(one.till * 1000L + k, one.rest);
            }
            for (int i = 0; i < one.sureties.size(); i++) {
                if (one.buyer == man) {
                    order.put(1000000000L + k * 3L + i, one.sureties.get(i).claim);
                }
            }
        }
        for (Debt debt : order.values()) {
            settle(debt, man, debt.coins);
        }
        int heir = -1;
        for (int k = 0; k < men.size() && heir < 0; k++) {
            heir = there(k) && men.get(k).town == dead.town ? k : -1;
        }
        int left = dead.purse;
        dead.purse = 0;
        if (heir < 0) {
            chests[dead.town] += left;
        } else {
            men.get(heir).purse += left;
        }
        for (Lot lot : lots) {
            if (lot.man == man) {
                lot.man = heir < 0 ? man : heir;
                lot.amount = heir < 0 ? 0 : lot.amount;
            }
        }
        for (Bargain one : bargains) {
            inherit(one.rest, man, heir);
            for (Surety surety : one.sureties) {
                inherit(surety.claim, man, heir);
            }
        }
        return heir;
    }

    private void inherit(Debt debt, int dead, int heir) {
        if (debt.to == dead) {
            debt.to = heir;
            debt.town = men.get(dead).town;
        }
    }

    private boolean there(int man) {
        return man >= 0 && man < men.size() && men.get(man).gone < 0;
    }

    /** Coins of a payer's purse to whom the debt is owed. */
    private int settle(Debt debt, int payer, int most) {
        int coins = Math.min(Math.min(most, debt.coins), men.get(payer).purse);
        men.get(payer).purse -= coins;
        debt.coins -= coins;
        if (debt.to < 0) {
            chests[debt.town] += coins;
        } else {
            men.get(debt.to).purse += coins;
        }
        return coins;
    }

    int bring(int man, int kind, int amount) {
        if (!there(man) || kind < 0 || kind > 7 || amount < 1 || amount > 100000 || lots.size() == 200) {
            return -1;
        }
        return addLot(kind, amount, man, -1);
    }

    private int addLot(int kind, int amount, int man, int from) {
        Lot lot = new Lot();
        lot.kind = kind;
        lot.amount = amount;
        lot.first = amount;
        lot.man = man;
        lot.from = from;
        lots.add(lot);
        return lots.size() - 1;
    }

    int lot(int k, int what) {
        if (k < 0 || k >= lots.size() || what < 0 || what > 4) {
            return -1;
        }
        Lot l = lots.get(k);
        return new int[] {l.kind, l.amount, l.man, l.from, l.first}[what];
    }

    int men(int k, int what) {
        if (k < 0 || k >= men.size() || what < 0 || what > 7) {
            return -1;
        }
        Man m = men.get(k);
        return new int[] {m.town, m.gone < 0 ? 1 : 0, m.purse, owes(k, Integer.MAX_VALUE), owes(k, now), m.winterer ? 1 : 0,
            m.came, m.gone}[what];
    }

    /** By bargains whose day is ahead of a day, and by claims. */
    private int owes(int man, int day) {
        int sum = 0;
        for (Bargain one : bargains) {
            if (one.buyer == man) {
                sum += one.till < day ? one.rest.coins : 0;
                for (Surety surety : one.sureties) {
                    sum += surety.claim.coins;
                }
            }
        }
        return sum;
    }

    // ---- II.

    int feed(int a, int b, int c, int d, int e) {
        if (tape.length() > 380) {
            return -1;
        }
        StringBuilder more = new StringBuilder(tape);
        for (int four : new int[] {a, b, c, d, e}) {
            for (int i = 3; i >= 0; i--) {
                more.append((char) (four >>> 8 * i & 255));
            }
        }
        tape = more.toString();
        return tape.length();
    }

    int end(int n) {
        if (n < 0 || n > tape.length()) {
            return -1;
        }
        tape = tape.substring(0, n);
        return n;
    }

    int law(int rank, int day) {
        if (laws.size() == 30 || rank < 0 || rank > 2 || rank == 1 && (day < now || day > 3999)) {
            return -1;
        }
        SecondLaw text = new SecondLaw(tape);
        tape = "";
        if (text.fault > 0) {
            return -2 - text.fault;
        }
        Law law = new Law();
        law.rank = rank;
        law.binds = new int[] {now, day, -1}[rank];
        law.told = now;
        law.clauses = text.clauses;
        laws.add(law);
        return laws.size() - 1;
    }

    boolean read(int law) {
        if (law < 0 || law >= laws.size() || laws.get(law).rank != 2 || laws.get(law).binds >= 0) {
            return false;
        }
        laws.get(law).binds = now;
        return true;
    }

    int laws(int k, int what) {
        if (k < 0 || k >= laws.size() || what < 0 || what > 3) {
            return -1;
        }
        Law l = laws.get(k);
        return new int[] {l.rank, l.clauses.size(), l.binds, l.told}[what];
    }

    int force(int rank, int day) {
        if (rank < 0 || rank > 2 || day < 0 || day > 3999) {
            return -1;
        }
        int best = -1;
        for (int k = laws.size() - 1; k >= 0; k--) {
            Law l = laws.get(k);
            if (l.rank == rank && l.binds >= 0 && l.binds <= day && (best < 0 || l.binds > laws.get(best).binds)) {
                best = k;
            }
        }
        return best;
    }

    int verdict(int seller, int buyer, int lot, int amount, int price, int credit, int hour) {
        int wrong = wrong(seller, buyer, lot, amount, price, credit, hour);
        return wrong > 0 ? -1 : judge(seller, buyer, lot, amount, price, credit, hour);
    }

    private int wrong(int seller, int buyer, int lot, int amount, int price, int credit, int hour) {
        if (!there(seller) || !there(buyer) || seller == buyer) {
            return 1;
        }
        if (lot(lot, 2) != seller || amount < 1 || amount > lot(lot, 1)) {
            return 2;
        }
        return price < 0 || price > 1000000 || credit < 0 || credit > 720 || hour < 0 || hour > 23 ? 3 : 0;
    }

    private int judge(int seller, int buyer, int lot, int amount, int price, int credit, int hour) {
        Map<String, Long> facts = new HashMap<>();
        int one = men(seller, 0);
        int other = men(buyer, 0);
        int elder = elder(now);
        facts.put("seller", (long) one);
        facts.put("buyer", (long) other);
        facts.put("kind", (long) lot(lot, 0));
        facts.put("amount", (long) amount);
        facts.put("price", (long) price);
        facts.put("credit", (long) credit);
        facts.put("hour", (long) hour);
        facts.put("day", (long) now);
        facts.put("winter", (long) Math.max(men(seller, 5), men(buyer, 5)));
        facts.put("elder", elder == seller || elder == buyer ? 1L : 0L);
        facts.put("owes", (long) men(buyer, 3));
        facts.put("late", (long) men(buyer, 4));
        facts.put("shut", isShut(one, now, now) == 1 || isShut(other, now, now) == 1 ? 1L : 0L);
        facts.put("here", (long) price(8, lot(lot, 0), now, 0));
        for (int rank = 2; rank >= 0; rank--) {
            toldLaw = force(rank, now);
            List<SecondLaw.Clause> clauses = toldLaw < 0 ? List.of() : laws.get(toldLaw).clauses;
            for (toldClause = 0; toldClause < clauses.size(); toldClause++) {
                if (clauses.get(toldClause).test.holds(facts)) {
                    return clauses.get(toldClause).verdict;
                }
            }
        }
        toldLaw = -1;
        toldClause = -1;
        return 0;
    }

    int told(int what) {
        return what == 0 ? toldLaw : what == 1 ? toldClause : -1;
    }

    int shut(int town, int first, int last) {
        if (ports.size() == 20 || town < 0 || town > 7 || first < 0 || last > 3999 || last < first) {
            return -1;
        }
        Port port = new Port();
        port.town = town;
        port.first = first;
        port.last = last;
        ports.add(port);
        return ports.size() - 1;
    }

    boolean readShut(int k) {
        if (k < 0 || k >= ports.size() || ports.get(k).read >= 0) {
            return false;
        }
        ports.get(k).read = now;
        return true;
    }

    int isShut(int town, int day, int read) {
        if (town < 0 || town > 7 || day < 0 || day > 3999 || read < 0 || read > 3999) {
            return -1;
        }
        return ports.stream().anyMatch(p -> covers(p, town, day) && p.read >= 0 && p.read <= read) ? 1 : 0;
    }

    private static boolean covers(Port port, int town, int day) {
        return port.town == town && day >= port.first && day <= port.last;
    }

    // ---- III.

    int deal(int seller, int buyer, int lot, int amount, int price, int credit, int hour) {
        int wrong = wrong(seller, buyer, lot, amount, price, credit, hour);
        if (wrong > 0) {
            return wrong;
        }
        if (lots.size() == 200 || bargains.size() == 300) {
            return 4;
        }
        int verdict = judge(seller, buyer, lot, amount, price, credit, hour);
        if (verdict == 1) {
            return 5;
        }
        if (credit == 0 && men(buyer, 2) < price) {
            return 6;
        }
        lots.get(lot).amount -= amount;
        Bargain made = new Bargain();
        made.seller = seller;
        made.buyer = buyer;
        made.lot = addLot(lot(lot, 0), amount, buyer, lot);
        made.price = price;
        made.day = now;
        made.till = credit > 0 ? now + credit : -1;
        made.rest.debtor = buyer;
        made.rest.to = seller;
        made.rest.coins = credit > 0 ? price : 0;
        if (credit == 0) {
            men.get(buyer).purse -= price;
            men.get(seller).purse += price;
        }
        if (verdict > 10) {
            made.fine = Math.min(verdict - 10, men.get(seller).purse);
            men.get(seller).purse -= made.fine;
            chests[men(seller, 0)] += made.fine / 2;
            chests[9] += made.fine - made.fine / 2;
        }
        bargains.add(made);
        return 99 + bargains.size();
    }

    private Bargain owing(int k) {
        return k < 0 || k >= bargains.size() || bargains.get(k).rest.coins == 0 ? null : bargains.get(k);
    }

    int bargain(int k, int what) {
        if (k < 0 || k >= bargains.size() || what < 0 || what > 9) {
            return -1;
        }
        Bargain b = bargains.get(k);
        return new int[] {b.seller, b.buyer, b.lot, b.price, b.rest.coins, b.till, b.sureties.size(), b.fine, b.day,
            b.rest.to}[what];
    }

    int surety(int bargain, int man) {
        Bargain b = owing(bargain);
        if (b == null || b.sureties.size() == 3 || !there(man) || b.seller == man || b.buyer == man) {
            return -1;
        }
        if (b.sureties.stream().anyMatch(s -> s.man == man)) {
            return -1;
        }
        Surety surety = new Surety();
        surety.man = man;
        surety.claim.debtor = b.buyer;
        surety.claim.to = man;
        b.sureties.add(surety);
        return b.sureties.size();
    }

    private Surety suretyOf(int bargain, int i) {
        boolean is = bargain >= 0 && bargain < bargains.size() && i >= 0 && i < bargains.get(bargain).sureties.size();
        return is ? bargains.get(bargain).sureties.get(i) : null;
    }

    int sureties(int bargain, int i, int what) {
        Surety s = suretyOf(bargain, i);
        return s == null || what < 0 || what > 2 ? -1 : new int[] {s.man, s.claim.coins, s.claim.to}[what];
    }

    int pay(int bargain, int coins) {
        Bargain b = owing(bargain);
        return b == null || coins < 1 ? -1 : settle(b.rest, b.buyer, coins);
    }

    int call(int bargain) {
        Bargain b = owing(bargain);
        if (b == null || b.till >= now) {
            return -1;
        }
        int before = b.rest.coins;
        settle(b.rest, b.buyer, before);
        int left = b.sureties.size();
        for (Surety surety : b.sureties) {
            surety.claim.coins += settle(b.rest, surety.man, (int) Math.ceil(b.rest.coins / (double) left));
            left--;
        }
        return before - b.rest.coins;
    }

    int claim(int bargain, int i, int coins) {
        Surety s = suretyOf(bargain, i);
        return s == null || coins < 1 || s.claim.coins == 0 ? -1 : settle(s.claim, s.claim.debtor, coins);
    }

    int chest(int town) {
        return town < 0 || town > 9 ? -1 : chests[town];
    }

    // ---- IV.

    int weigh(int kind, int ours, int theirs) {
        if (weighings.size() == 100 || kind < 0 || kind > 7 || ours < 2 || ours > 100000 || theirs < 1 || theirs > 100000) {
            return -1;
        }
        Weighing w = new Weighing();
        w.kind = kind;
        w.ours = ours;
        w.theirs = theirs;
        w.told = now;
        weighings.add(w);
        return weighings.size() - 1;
    }

    boolean takeBack(int weighing) {
        if (weighing < 0 || weighing >= weighings.size() || weighings.get(weighing).back < 4000) {
            return false;
        }
        weighings.get(weighing).back = now;
        return true;
    }

    private static long[] low(Weighing w) {
        return new long[] {w.theirs - 1, w.ours + 1};
    }

    private static long[] high(Weighing w) {
        return new long[] {w.theirs + 1, w.ours - 1};
    }

    private static int compare(long[] a, long[] b) {
        return Long.compare(a[0] * b[1], b[0] * a[1]);
    }

    int span(int kind, int known, int what) {
        if (kind < 0 || kind > 7 || known < 0 || known > 3999 || what < 0 || what > 5) {
            return -1;
        }
        List<Weighing> all = weighings.stream().filter(w -> w.kind == kind && w.told <= known && known < w.back).toList();
        long[] lower = {0, 1};
        long[] upper = {1, 0};
        if (!all.isEmpty()) {
            lower = low(all.get(0));
            upper = high(all.get(0));
        }
        for (Weighing w : all) {
            lower = compare(low(w), lower) > 0 ? low(w) : lower;
            upper = compare(high(w), upper) < 0 ? high(w) : upper;
        }
        int[] two = {-1, -1};
        for (int j = 0; j < all.size() && two[0] < 0; j++) {
            for (int i = 0; i < j && two[0] < 0; i++) {
                Weighing a = all.get(i);
                Weighing b = all.get(j);
                if (compare(low(a), high(b)) > 0 || compare(low(b), high(a)) > 0) {
                    two = new int[] {weighings.indexOf(a), weighings.indexOf(b)};
                }
            }
        }
        return new int[] {(int) lower[0], (int) lower[1], (int) upper[0], (int) upper[1], two[0], two[1]}[what];
    }

    int theirs(int kind, int ours, int known, int what) {
        if (kind < 0 || kind > 7 || ours < 0 || ours > 1000000 || known < 0 || known > 3999 || what < 0 || what > 1) {
            return -1;
        }
        if (span(kind, known, 4) >= 0) {
            return -2;
        }
        long above = span(kind, known, 2 * what);
        long below = span(kind, known, 2 * what + 1);
        if (below == 0) {
            return 2000000000;
        }
        long exact = what == 0 ? Math.floorDiv(ours * above, below) : -Math.floorDiv(-ours * above, below);
        return (int) Math.min(2000000000L, exact);
    }

    // ---- V.

    boolean order(int n, long towns, int days) {
        if (n < 1 || n > 8 || days < 1 || days > 400) {
            return false;
        }
        List<Integer> told = new ArrayList<>();
        for (int i = 0; i < n; i++) {
            told.add((int) (towns >> 4 * i & 15));
        }
        if (told.stream().anyMatch(t -> t > 7) || new HashSet<>(told).size() < n) {
            return false;
        }
        turns = told;
        term = days;
        return true;
    }

    int elder(int day) {
        if (day < 0 || day > 3999) {
            return -1;
        }
        int number = day / term;
        int first = day - day % term;
        for (int i = number; i < number + turns.size(); i++) {
            for (int k = 0; k < men.size(); k++) {
                Man m = men.get(k);
                if (m.town == turns.get(i % turns.size()) && m.came <= first && (m.gone < 0 || m.gone > first)) {
                    return k;
                }
            }
        }
        return -1;
    }

    // ---- VI.

    int ship(int town, int day, int days, int room) {
        if (ships.size() == 20 || town < 0 || town > 7 || day < now || day > 3999 || days < 1 || days > 99) {
            return -1;
        }
        if (room < 1 || room > 1000000) {
            return -1;
        }
        Ship s = new Ship();
        s.number = ships.size();
        s.town = town;
        s.day = day;
        s.coming = day + days;
        s.room = room;
        ships.add(s);
        return s.number;
    }

    int news(int town, int kind, int low, int high) {
        if (news.size() == 200 || town < 0 || town > 8 || kind < 0 || kind > 7 || low < 0 || high > 9999 || low > high) {
            return -1;
        }
        News one = new News();
        one.town = town;
        one.kind = kind;
        one.low = low;
        one.high = high;
        one.day = now;
        news.add(one);
        return news.size();
    }

    int price(int town, int kind, int known, int what) {
        if (town < 0 || town > 8 || kind < 0 || kind > 7 || known < 0 || known > 3999 || what < 0 || what > 1) {
            return -1;
        }
        int answer = 0;
        for (News one : news) {
            if (one.town == town && one.kind == kind && one.day <= known) {
                answer = what == 0 ? one.low : one.high;
            }
        }
        return answer;
    }

    long plan(int man) {
        if (!there(man)) {
            return -1;
        }
        List<Integer> mine = new ArrayList<>();
        for (int k = 0; k < lots.size() && mine.size() < 5; k++) {
            if (lot(k, 2) == man && lot(k, 1) > 0) {
                mine.add(k);
            }
        }
        List<Ship> open = ships.stream().filter(s -> s.day >= now && !shutAtComing(s, true))
                .sorted(Comparator.comparing((Ship s) -> s.day).thenComparing(s -> s.number)).limit(4).toList();
        long[] best = null;
        int ways = (int) Math.pow(open.size() + 1, mine.size());
        for (int code = 0; code < ways; code++) {
            long[] one = worth(mine, open, code);
            if (one != null && (best == null || one[0] > best[0] || one[0] == best[0] && one[1] > best[1])) {
                best = one;
            }
        }
        plan = new int[mine.size()][];
        for (int k = 0; k < mine.size(); k++) {
            plan[k] = new int[] {mine.get(k), (int) best[2 + k]};
        }
        planShips = open.size();
        planHigh = best[1];
        return best[0];
    }

    /** Low, high and each lot's ship by the way with this number, of ways in the order of the document; null above a room. */
    private long[] worth(List<Integer> mine, List<Ship> open, int code) {
        long[] sums = new long[2 + mine.size()];
        int[] loads = new int[open.size()];
        int rest = code;
        for (int k = mine.size() - 1; k >= 0; k--) {
            int way = rest % (open.size() + 1);
            rest /= open.size() + 1;
            Lot lot = lots.get(mine.get(k));
            int town = way == open.size() ? 8 : open.get(way).town;
            sums[2 + k] = way == open.size() ? -1 : open.get(way).number;
            sums[0] += (long) lot.amount * price(town, lot.kind, now, 0);
            sums[1] += (long) lot.amount * price(town, lot.kind, now, 1);
            if (way < open.size()) {
                loads[way] += lot.amount;
            }
        }
        for (int way = 0; way < open.size(); way++) {
            if (loads[way] > open.get(way).room) {
                return null;
            }
        }
        return sums;
    }

    private boolean shutAtComing(Ship ship, boolean read) {
        return ports.stream().anyMatch(p -> covers(p, ship.town, ship.coming) && (!read || p.read >= 0));
    }

    int planned(int k, int what) {
        if (plan == null || what < 0 || what > 1 || k < -1 || k >= plan.length) {
            return -1;
        }
        return k >= 0 ? plan[k][what] : what == 0 ? plan.length : planShips;
    }

    long high() {
        return planHigh;
    }

    int sail(int man, int ship) {
        if (!there(man) || ship < 0 || ship >= ships.size() || ships.get(ship).day < now) {
            return -1;
        }
        if (!men.get(man).sailed.add(ship)) {
            return -1;
        }
        if (shutAtComing(ships.get(ship), true)) {
            men.get(man).broke++;
            return 1;
        }
        return shutAtComing(ships.get(ship), false) ? 2 : 0;
    }

    int broke(int man) {
        return man < 0 || man >= men.size() ? -1 : men.get(man).broke;
    }

    boolean hand(int k, int gain, int fine, int crowd) {
        if (k < 0 || k > 7 || k > hands.size() || gain < 0 || gain > 9999 || fine < 0 || fine > 9999) {
            return false;
        }
        if (crowd < 1 || crowd > 8) {
            return false;
        }
        if (k == hands.size()) {
            hands.add(null);
        }
        hands.set(k, new int[] {gain, fine, crowd});
        return true;
    }

    int breakers(int n) {
        if (n < 1 || n > hands.size()) {
            return -1;
        }
        holding = new ArrayList<>();
        for (int set = 0; set < 1 << n; set++) {
            boolean holds = true;
            for (int k = 0; k < n; k++) {
                holds &= share(set, k) >= share(set ^ 1 << k, k);
            }
            if (holds) {
                holding.add(set);
            }
        }
        return holding.size();
    }

    private int share(int set, int k) {
        int[] hand = hands.get(k);
        boolean breaks = (set & 1 << k) != 0;
        return !breaks ? 0 : Integer.bitCount(set) < hand[2] ? hand[0] - hand[1] : hand[0];
    }

    int holds(int k) {
        return k < 0 || k >= holding.size() ? -1 : holding.get(k);
    }

    // ---- VII.

    int entry(int book, int day, int man, int coins) {
        if (book < 0 || book > 1 || day < 0 || day > 3999 || man < 0 || man >= men.size() || coins < 0 || coins > 1000000) {
            return -1;
        }
        if (books.get(book).size() == 10) {
            return -1;
        }
        Entry e = new Entry();
        e.day = day;
        e.man = man;
        e.coins = coins;
        books.get(book).add(e);
        pairing = null;
        return books.get(book).size() - 1;
    }

    int clear() {
        int gone = books.get(0).size() + books.get(1).size();
        pairing = gone > 0 ? null : pairing;
        books.get(0).clear();
        books.get(1).clear();
        return gone;
    }

    int join(int coins, int days) {
        if (coins < 0 || coins > 1000 || days < 0 || days > 1000) {
            return -1;
        }
        pairing = best(0, 0, coins, days, new HashMap<>());
        return -pairing[0];
    }

    /** Pairs below 0, coins, days, then the partner of each of ours from i on (10: none): the least such row. */
    private int[] best(int i, int used, int coins, int days, Map<Integer, int[]> known) {
        if (i == books.get(0).size()) {
            return new int[3];
        }
        int key = i << 10 | used;
        if (known.containsKey(key)) {
            return known.get(key);
        }
        int[] found = ahead(best(i + 1, used, coins, days, known), 10);
        Entry ours = books.get(0).get(i);
        for (int j = 0; j < books.get(1).size(); j++) {
            Entry home = books.get(1).get(j);
            int c = Math.abs(ours.coins - home.coins);
            int d = Math.abs(ours.day - home.day);
            if ((used >> j & 1) == 0 && ours.man == home.man && c <= coins && d <= days) {
                int[] other = ahead(best(i + 1, used | 1 << j, coins, days, known), j);
                other[0]--;
                other[1] += c;
                other[2] += d;
                found = Arrays.compare(other, found) < 0 ? other : found;
            }
        }
        known.put(key, found);
        return found;
    }

    private static int[] ahead(int[] row, int partner) {
        int[] longer = new int[row.length + 1];
        System.arraycopy(row, 0, longer, 0, 3);
        longer[3] = partner;
        System.arraycopy(row, 3, longer, 4, row.length - 3);
        return longer;
    }

    int joined(int k) {
        if (pairing == null || k < -2 || k >= pairing.length - 3) {
            return -1;
        }
        if (k < 0) {
            return k == -1 ? pairing[1] : pairing[2];
        }
        return pairing[3 + k] == 10 ? -1 : pairing[3 + k];
    }

    long count(int what) {
        if (what < 0 || what > 13) {
            return -1;
        }
        long coins = Arrays.stream(chests).sum() + men.stream().mapToLong(m -> m.purse).sum();
        return new long[] {now, men.size(), lots.size(), laws.size(), bargains.size(), weighings.size(), ships.size(),
            news.size(), ports.size(), tape.length(), hands.size(), books.get(0).size(), books.get(1).size(), coins}[what];
    }
}
