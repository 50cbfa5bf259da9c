import java.util.ArrayList;

/**
 * A house of foreign merchants behind a gate in a far town. The words in capitals, and what each call
 * answers and changes, are those of the project's document; an object serves for 512 calls.
 */
public final class MerchantYard {
    public static final int NONE = -1;

    private static final int LAST_DAY = 3999;
    private static final int TOWNS = 8;
    /** Behind the towns: the place itself, its men, its chest and its prices. */
    private static final int LOCAL = 8;
    private static final int HOUSE_CHEST = 9;
    private static final int CHESTS = 10;
    private static final int KINDS = 8;
    private static final int MOST_MEN = 40;
    private static final int MOST_LOTS = 200;
    private static final int MOST_BARGAINS = 300;
    private static final int MOST_SURETIES = 3;
    private static final int MOST_COINS = 1000000;
    private static final int MOST_AMOUNT = 100000;
    private static final int LONGEST_CREDIT = 720;
    private static final int LAST_HOUR = 23;
    private static final int FULL_PURSE = 2000000000;
    private static final int NOBODY_DIED = -2;

    private static final int HOUSE = 0;
    private static final int TREATY = 1;
    private static final int DIET = 2;
    private static final int MOST_LAWS = 30;
    private static final int BARRED = 1;
    private static final int FINED = 10;

    private static final int NO_MEN = 1;
    private static final int NO_LOT = 2;
    private static final int NOT_AS_TOLD = 3;
    private static final int HOUSE_FULL = 4;
    private static final int FORBIDDEN = 5;
    private static final int POOR = 6;
    private static final int DEAL_DONE = 100;

    /** The tokens of a law's text: 0 to 13 are the words for facts of a deal, in this order. */
    private static final int TOKEN_SELLER = 0;
    private static final int TOKEN_BUYER = 1;
    private static final int TOKEN_KIND = 2;
    private static final int TOKEN_AMOUNT = 3;
    private static final int TOKEN_PRICE = 4;
    private static final int TOKEN_CREDIT = 5;
    private static final int TOKEN_HOUR = 6;
    private static final int TOKEN_DAY = 7;
    private static final int TOKEN_WINTER = 8;
    private static final int TOKEN_ELDER = 9;
    private static final int TOKEN_OWES = 10;
    private static final int TOKEN_LATE = 11;
    private static final int TOKEN_SHUT = 12;
    private static final int TOKEN_HERE = 13;
    private static final int FACT_WORDS = 14;
    private static final int TOKEN_LET = 14;
    private static final int TOKEN_BAR = 15;
    private static final int TOKEN_FINE = 16;
    private static final int TOKEN_IF = 17;
    private static final int TOKEN_OR = 18;
    private static final int TOKEN_AND = 19;
    private static final int TOKEN_NOT = 20;
    private static final int ALL_WORDS = 21;
    private static final int TOKEN_NUMBER = 21;
    private static final int TOKEN_OPEN_TEST = 22;
    private static final int TOKEN_CLOSE_TEST = 23;
    private static final int TOKEN_OPEN_SUM = 24;
    private static final int TOKEN_CLOSE_SUM = 25;
    private static final int TOKEN_NEXT_CLAUSE = 26;
    private static final int TOKEN_PLUS = 27;
    private static final int TOKEN_MINUS = 28;
    private static final int TOKEN_TIMES = 29;
    private static final int TOKEN_BELOW = 30;
    private static final int TOKEN_NOT_ABOVE = 31;
    private static final int TOKEN_EQUAL = 32;
    private static final int TOKEN_NOT_BELOW = 33;
    private static final int TOKEN_ABOVE = 34;
    private static final int TOKEN_END = 35;
    private static final int TOKEN_STRANGE = 36;

    private final ArrayList<Man> men;
    private final ArrayList<Lot> lots;
    private final ArrayList<Bargain> bargains;
    private final int[] chests;
    private final LawReader reader;
    private final Court court;
    private final Measures measures;
    private final Sea sea;
    private final Planner planner;
    private final Crowd hands;
    private final Books books;
    private int now;
    private long lost;
    private int[] turns;
    private int termDays;

    public MerchantYard() {
        men = new ArrayList<Man>();
        lots = new ArrayList<Lot>();
        bargains = new ArrayList<Bargain>();
        chests = new int[CHESTS];
        reader = new LawReader();
        court = new Court();
        measures = new Measures();
        sea = new Sea();
        planner = new Planner();
        hands = new Crowd();
        books = new Books();
        now = 0;
        lost = 0;
        turns = new int[1];
        termDays = 90;
    }

    // ---- I. days, men, lots

    public boolean clock(int day) {
        if (day < now || day > LAST_DAY) {
            return false;
        }
        now = day;
        return true;
    }

    public int man(int town, boolean winterer, int coins) {
        if (men.size() >= MOST_MEN || !within(town, 0, LOCAL) || !within(coins, 0, MOST_COINS)) {
            return NONE;
        }
        men.add(new Man(town, winterer, coins, now));
        return men.size() - 1;
    }

    public boolean leave(int man) {
        Man leaver = manThere(man);
        if (leaver == null) {
            return false;
        }
        leaver.gone = now;
        return true;
    }

    public int die(int man) {
        Man dead = manThere(man);
        if (dead == null) {
            return NOBODY_DIED;
        }
        dead.gone = now;
        payBargainsOf(man);
        payClaimsOf(man);
        int heir = heirOf(dead.town);
        give(heir, dead.town, dead.spend(dead.purse));
        leaveLots(man, heir);
        leaveDues(man, heir);
        return heir;
    }

    public int bring(int man, int kind, int amount) {
        if (lots.size() >= MOST_LOTS || manThere(man) == null) {
            return NONE;
        }
        if (!within(kind, 0, KINDS - 1) || !within(amount, 1, MOST_AMOUNT)) {
            return NONE;
        }
        lots.add(new Lot(kind, amount, man, NONE));
        return lots.size() - 1;
    }

    public int lot(int k, int what) {
        if (k < 0 || k >= lots.size()) {
            return NONE;
        }
        Lot asked = lots.get(k);
        switch (what) {
            case 0:
                return asked.kind;
            case 1:
                return asked.amount;
            case 2:
                return asked.owner;
            case 3:
                return asked.from;
            case 4:
                return asked.first;
            default:
                return NONE;
        }
    }

    public int men(int k, int what) {
        if (k < 0 || k >= men.size()) {
            return NONE;
        }
        Man asked = men.get(k);
        switch (what) {
            case 0:
                return asked.town;
            case 1:
                return asked.gone == NONE ? 1 : 0;
            case 2:
                return asked.purse;
            case 3:
                return owedBy(k, false);
            case 4:
                return owedBy(k, true);
            case 5:
                return asked.winterer ? 1 : 0;
            case 6:
                return asked.came;
            case 7:
                return asked.gone;
            default:
                return NONE;
        }
    }

    // ---- II. laws and ports

    public int feed(int a, int b, int c, int d, int e) {
        if (!reader.hasRoomFor(20)) {
            return NONE;
        }
        reader.write(a);
        reader.write(b);
        reader.write(c);
        reader.write(d);
        reader.write(e);
        return reader.length;
    }

    public int end(int n) {
        if (n < 0 || n > reader.length) {
            return NONE;
        }
        reader.length = n;
        return n;
    }

    public int law(int rank, int day) {
        if (court.laws.size() >= MOST_LAWS || !within(rank, HOUSE, DIET)) {
            return NONE;
        }
        if (rank == TREATY && !within(day, now, LAST_DAY)) {
            return NONE;
        }
        int fault = reader.readTape();
        reader.length = 0;
        if (fault != 0) {
            return -2 - fault;
        }
        int binds = rank == HOUSE ? now : rank == TREATY ? day : NONE;
        court.laws.add(reader.lawOf(rank, binds, now));
        return court.laws.size() - 1;
    }

    public boolean read(int law) {
        Law sent = court.lawAt(law);
        if (sent == null || sent.rank != DIET || sent.binds != NONE) {
            return false;
        }
        sent.binds = now;
        return true;
    }

    public int laws(int k, int what) {
        Law asked = court.lawAt(k);
        if (asked == null) {
            return NONE;
        }
        switch (what) {
            case 0:
                return asked.rank;
            case 1:
                return asked.verdicts.length;
            case 2:
                return asked.binds;
            case 3:
                return asked.toldOn;
            default:
                return NONE;
        }
    }

    public int force(int rank, int day) {
        if (!within(rank, HOUSE, DIET) || !isDay(day)) {
            return NONE;
        }
        return court.inForce(rank, day);
    }

    public int verdict(int seller, int buyer, int lot, int amount, int price, int credit, int hour) {
        if (refusal(seller, buyer, lot, amount, price, credit, hour) != 0) {
            return NONE;
        }
        return judge(seller, buyer, lot, amount, price, credit, hour);
    }

    public int told(int what) {
        switch (what) {
            case 0:
                return court.toldLaw;
            case 1:
                return court.toldClause;
            default:
                return NONE;
        }
    }

    public int shut(int town, int first, int last) {
        if (!isTown(town) || !isDay(first) || !isDay(last) || first > last) {
            return NONE;
        }
        return sea.addClosing(town, first, last);
    }

    public boolean readShut(int k) {
        return sea.readClosing(k, now);
    }

    public int isShut(int town, int day, int read) {
        if (!isTown(town) || !isDay(day) || !isDay(read)) {
            return NONE;
        }
        return sea.closedBy(town, day, read) ? 1 : 0;
    }

    // ---- III. bargains

    public int deal(int seller, int buyer, int lot, int amount, int price, int credit, int hour) {
        int refused = refusal(seller, buyer, lot, amount, price, credit, hour);
        if (refused != 0) {
            return refused;
        }
        if (lots.size() >= MOST_LOTS || bargains.size() >= MOST_BARGAINS) {
            return HOUSE_FULL;
        }
        int verdict = judge(seller, buyer, lot, amount, price, credit, hour);
        if (verdict == BARRED) {
            return FORBIDDEN;
        }
        if (credit == 0 && men.get(buyer).purse < price) {
            return POOR;
        }
        splitLot(lot, amount, buyer);
        Bargain made = new Bargain(seller, buyer, lots.size() - 1, price, credit == 0 ? NONE : now + credit, now);
        bargains.add(made);
        payOwed(made, credit == 0 ? price : 0);
        if (verdict >= FINED) {
            made.fine = payFine(men.get(seller), verdict - FINED);
        }
        return DEAL_DONE + bargains.size() - 1;
    }

    public int bargain(int k, int what) {
        Bargain asked = bargainAt(k);
        if (asked == null) {
            return NONE;
        }
        switch (what) {
            case 0:
                return asked.seller;
            case 1:
                return asked.buyer;
            case 2:
                return asked.lot;
            case 3:
                return asked.price;
            case 4:
                return asked.owed;
            case 5:
                return asked.due;
            case 6:
                return asked.suretyCount;
            case 7:
                return asked.fine;
            case 8:
                return asked.day;
            case 9:
                return asked.creditor;
            default:
                return NONE;
        }
    }

    public int surety(int bargain, int man) {
        Bargain vouched = bargainAt(bargain);
        if (vouched == null || vouched.owed == 0 || vouched.suretyCount >= MOST_SURETIES) {
            return NONE;
        }
        if (manThere(man) == null || man == vouched.seller || man == vouched.buyer || vouched.hasSurety(man)) {
            return NONE;
        }
        vouched.addSurety(man);
        return vouched.suretyCount;
    }

    public int sureties(int bargain, int i, int what) {
        Bargain asked = bargainAt(bargain);
        if (asked == null || i < 0 || i >= asked.suretyCount) {
            return NONE;
        }
        switch (what) {
            case 0:
                return asked.vouchers[i];
            case 1:
                return asked.claims[i];
            case 2:
                return asked.claimants[i];
            default:
                return NONE;
        }
    }

    public int pay(int bargain, int coins) {
        Bargain owed = bargainAt(bargain);
        if (owed == null || coins < 1 || owed.owed == 0) {
            return NONE;
        }
        return payOwed(owed, coins);
    }

    public int call(int bargain) {
        Bargain called = bargainAt(bargain);
        if (called == null || called.owed == 0 || called.due >= now) {
            return NONE;
        }
        int came = payOwed(called, called.owed);
        for (int i = 0; i < called.suretyCount; i++) {
            came += callSurety(called, i);
        }
        return came;
    }

    public int claim(int bargain, int i, int coins) {
        Bargain claimed = bargainAt(bargain);
        if (claimed == null || i < 0 || i >= claimed.suretyCount || coins < 1 || claimed.claims[i] == 0) {
            return NONE;
        }
        return payClaim(claimed, i, coins);
    }

    public int chest(int town) {
        return within(town, 0, HOUSE_CHEST) ? chests[town] : NONE;
    }

    // ---- IV. measures

    public int weigh(int kind, int ours, int theirs) {
        if (!isKind(kind) || !within(ours, 2, MOST_AMOUNT) || !within(theirs, 1, MOST_AMOUNT)) {
            return NONE;
        }
        return measures.add(kind, ours, theirs, now);
    }

    public boolean takeBack(int weighing) {
        return measures.withdraw(weighing, now);
    }

    public int span(int kind, int known, int what) {
        if (!isKind(kind) || !isDay(known)) {
            return NONE;
        }
        switch (what) {
            case 0:
                return measures.lowerAbove(measures.greatestLower(kind, known));
            case 1:
                return measures.lowerBelow(measures.greatestLower(kind, known));
            case 2:
                return measures.upperAbove(measures.leastUpper(kind, known));
            case 3:
                return measures.upperBelow(measures.leastUpper(kind, known));
            case 4:
                return measures.lesserQuarreller(kind, known, measures.greaterQuarreller(kind, known));
            case 5:
                return measures.greaterQuarreller(kind, known);
            default:
                return NONE;
        }
    }

    public int theirs(int kind, int ours, int known, int what) {
        if (!isKind(kind) || !within(ours, 0, MOST_COINS) || !isDay(known) || !within(what, 0, 1)) {
            return NONE;
        }
        if (measures.greaterQuarreller(kind, known) != NONE) {
            return -2;
        }
        return what == 0 ? measures.leastOf(kind, ours, known) : measures.mostOf(kind, ours, known);
    }

    // ---- V. elders

    public boolean order(int n, long towns, int days) {
        if (!within(n, 1, TOWNS) || !within(days, 1, 400)) {
            return false;
        }
        int[] asked = new int[n];
        int seen = 0;
        for (int i = 0; i < n; i++) {
            int town = (int) (towns >>> (4 * i)) & 15;
            if (town >= TOWNS || (seen >> town & 1) != 0) {
                return false;
            }
            seen |= 1 << town;
            asked[i] = town;
        }
        turns = asked;
        termDays = days;
        return true;
    }

    public int elder(int day) {
        return isDay(day) ? elderOn(day) : NONE;
    }

    // ---- VI. ships, news, the plan, the breakers

    public int ship(int town, int day, int days, int room) {
        if (!isTown(town) || !within(day, now, LAST_DAY) || !within(days, 1, 99) || !within(room, 1, 1000000)) {
            return NONE;
        }
        return sea.addShip(town, day, days, room);
    }

    public int news(int town, int kind, int low, int high) {
        if (!within(town, 0, LOCAL) || !isKind(kind)) {
            return NONE;
        }
        if (!within(low, 0, 9999) || !within(high, low, 9999)) {
            return NONE;
        }
        return sea.addNews(town, kind, low, high, now);
    }

    public int price(int town, int kind, int known, int what) {
        if (!within(town, 0, LOCAL) || !isKind(kind) || !isDay(known) || !within(what, 0, 1)) {
            return NONE;
        }
        return what == 0 ? sea.lowPrice(town, kind, known) : sea.highPrice(town, kind, known);
    }

    public long plan(int man) {
        if (manThere(man) == null) {
            return NONE;
        }
        planner.clearPlan();
        for (int k = 0; k < lots.size(); k++) {
            Lot offered = lots.get(k);
            if (offered.owner == man && offered.amount > 0) {
                planner.addLot(k, offered.amount);
            }
        }
        int ship = sea.nextOpenShip(NONE, now);
        for (int i = 0; i < Planner.MOST_PLANNED_SHIPS && ship != NONE; i++) {
            planner.addShip(ship, sea.shipRooms[ship]);
            ship = sea.nextOpenShip(ship, now);
        }
        tellPlannerPrices();
        planner.findBest();
        return planner.bestLow;
    }

    public int planned(int k, int what) {
        if (!planner.made || !within(what, 0, 1)) {
            return NONE;
        }
        if (k == -1) {
            return what == 0 ? planner.lotCount : planner.shipCount;
        }
        if (k < 0 || k >= planner.lotCount) {
            return NONE;
        }
        return what == 0 ? planner.lotNumbers[k] : planner.shipOf(k);
    }

    public long high() {
        return planner.made ? planner.bestHigh : NONE;
    }

    public int sail(int man, int ship) {
        Man sailor = manThere(man);
        if (sailor == null || ship < 0 || ship >= sea.shipCount) {
            return NONE;
        }
        if ((sailor.sailed >> ship & 1) != 0 || sea.shipDays[ship] < now) {
            return NONE;
        }
        sailor.sailed |= 1 << ship;
        int town = sea.shipTowns[ship];
        int coming = sea.comingOf(ship);
        if (sea.closedBy(town, coming, now)) {
            sailor.broke++;
            return 1;
        }
        return sea.closureTold(town, coming) ? 2 : 0;
    }

    public int broke(int man) {
        return man < 0 || man >= men.size() ? NONE : men.get(man).broke;
    }

    public boolean hand(int k, int gain, int fine, int crowd) {
        if (!within(gain, 0, 9999) || !within(fine, 0, 9999) || !within(crowd, 1, Crowd.MOST_HANDS)) {
            return false;
        }
        return hands.setHand(k, gain, fine, crowd);
    }

    public int breakers(int n) {
        if (!within(n, 1, hands.handCount)) {
            return NONE;
        }
        return hands.findHolding(n);
    }

    public int holds(int k) {
        return k < 0 || k >= hands.holdingCount ? NONE : hands.holding[k];
    }

    // ---- VII. the books

    public int entry(int book, int day, int man, int coins) {
        if (!within(book, 0, 1) || !isDay(day) || man < 0 || man >= men.size() || !within(coins, 0, MOST_COINS)) {
            return NONE;
        }
        return books.add(book, day, man, coins);
    }

    public int clear() {
        return books.empty();
    }

    public int join(int coins, int days) {
        if (!within(coins, 0, Books.WIDEST) || !within(days, 0, Books.WIDEST)) {
            return NONE;
        }
        return books.findPairs(coins, days);
    }

    public int joined(int k) {
        if (!books.paired || k < -2 || k >= books.counts[Books.OURS]) {
            return NONE;
        }
        if (k == -1) {
            return books.coinsApart;
        }
        return k == -2 ? books.daysApart : books.partners[k];
    }

    public long count(int what) {
        switch (what) {
            case 0:
                return now;
            case 1:
                return men.size();
            case 2:
                return lots.size();
            case 3:
                return court.laws.size();
            case 4:
                return bargains.size();
            case 5:
                return measures.count;
            case 6:
                return sea.shipCount;
            case 7:
                return sea.newsCount;
            case 8:
                return sea.closingCount;
            case 9:
                return reader.length;
            case 10:
                return hands.handCount;
            case 11:
                return books.counts[Books.OURS];
            case 12:
                return books.counts[Books.HOME];
            case 13:
                return allCoins();
            default:
                return NONE;
        }
    }

    // ---- what the calls share

    private static boolean within(int number, int least, int most) {
        return number >= least && number <= most;
    }

    private static boolean isDay(int day) {
        return day >= 0 && day <= LAST_DAY;
    }

    private static boolean isTown(int town) {
        return town >= 0 && town < TOWNS;
    }

    private static boolean isKind(int kind) {
        return kind >= 0 && kind < KINDS;
    }

    private Man manThere(int k) {
        if (k < 0 || k >= men.size() || men.get(k).gone != NONE) {
            return null;
        }
        return men.get(k);
    }

    private Bargain bargainAt(int k) {
        return k < 0 || k >= bargains.size() ? null : bargains.get(k);
    }

    private long allCoins() {
        long sum = lost;
        for (int k = 0; k < men.size(); k++) {
            sum += men.get(k).purse;
        }
        for (int town = 0; town < CHESTS; town++) {
            sum += chests[town];
        }
        return sum;
    }

    /** To a man, or where nobody is left to take them, to the chest of the town. */
    private void give(int man, int town, int coins) {
        if (man == NONE) {
            chests[town] += coins;
        } else {
            lost += men.get(man).receive(coins);
        }
    }

    private int owedBy(int man, boolean lateOnly) {
        int sum = 0;
        for (int k = 0; k < bargains.size(); k++) {
            Bargain bargain = bargains.get(k);
            if (bargain.buyer == man) {
                sum += bargain.allClaims();
                if (!lateOnly || bargain.due < now) {
                    sum += bargain.owed;
                }
            }
        }
        return sum;
    }

    /** An heir is always of the dead man's own town, so what nobody can take goes to the seller's town. */
    private int payOwed(Bargain bargain, int coins) {
        int paid = men.get(bargain.buyer).spend(Math.min(coins, bargain.owed));
        bargain.owed -= paid;
        give(bargain.creditor, men.get(bargain.seller).town, paid);
        return paid;
    }

    private int payClaim(Bargain bargain, int i, int coins) {
        int paid = men.get(bargain.buyer).spend(Math.min(coins, bargain.claims[i]));
        bargain.claims[i] -= paid;
        give(bargain.claimants[i], men.get(bargain.vouchers[i]).town, paid);
        return paid;
    }

    private int callSurety(Bargain bargain, int i) {
        int left = bargain.suretyCount - i;
        if (left < 1) {
            return 0;
        }
        int share = (bargain.owed + left - 1) / left;
        int paid = men.get(bargain.vouchers[i]).spend(share);
        bargain.owed -= paid;
        bargain.claims[i] += paid;
        give(bargain.creditor, men.get(bargain.seller).town, paid);
        return paid;
    }

    private int payFine(Man seller, int fine) {
        int paid = seller.spend(fine);
        int ofHouse = (paid + 1) / 2;
        chests[HOUSE_CHEST] += ofHouse;
        chests[seller.town] += paid - ofHouse;
        return paid;
    }

    private void splitLot(int lot, int amount, int buyer) {
        Lot whole = lots.get(lot);
        whole.amount -= amount;
        lots.add(new Lot(whole.kind, amount, buyer, lot));
    }

    /** What deal() tells of 1 to 3; 0 if none of these holds. */
    private int refusal(int seller, int buyer, int lot, int amount, int price, int credit, int hour) {
        if (manThere(seller) == null || manThere(buyer) == null || seller == buyer) {
            return NO_MEN;
        }
        if (lot < 0 || lot >= lots.size() || lots.get(lot).owner != seller) {
            return NO_LOT;
        }
        if (!within(amount, 1, lots.get(lot).amount)) {
            return NO_LOT;
        }
        if (!within(price, 0, MOST_COINS) || !within(credit, 0, LONGEST_CREDIT) || !within(hour, 0, LAST_HOUR)) {
            return NOT_AS_TOLD;
        }
        return 0;
    }

    /** THE VERDICT on a deal that refusal() has let through. */
    private int judge(int seller, int buyer, int lot, int amount, int price, int credit, int hour) {
        Man from = men.get(seller);
        Man to = men.get(buyer);
        int kind = lots.get(lot).kind;
        int elder = elderOn(now);
        boolean closed = sea.closedBy(from.town, now, now) || sea.closedBy(to.town, now, now);
        long[] facts = court.facts;
        facts[TOKEN_SELLER] = from.town;
        facts[TOKEN_BUYER] = to.town;
        facts[TOKEN_KIND] = kind;
        facts[TOKEN_AMOUNT] = amount;
        facts[TOKEN_PRICE] = price;
        facts[TOKEN_CREDIT] = credit;
        facts[TOKEN_HOUR] = hour;
        facts[TOKEN_DAY] = now;
        facts[TOKEN_WINTER] = from.winterer || to.winterer ? 1 : 0;
        facts[TOKEN_ELDER] = elder == seller || elder == buyer ? 1 : 0;
        facts[TOKEN_OWES] = owedBy(buyer, false);
        facts[TOKEN_LATE] = owedBy(buyer, true);
        facts[TOKEN_SHUT] = closed ? 1 : 0;
        facts[TOKEN_HERE] = sea.lowPrice(LOCAL, kind, now);
        return court.decide(now);
    }

    private int elderOn(int day) {
        if (termDays < 1 || turns.length < 1) {
            return NONE;
        }
        int term = day / termDays;
        for (int i = 0; i < turns.length; i++) {
            int found = leastMan(turns[(term + i) % turns.length], term * termDays);
            if (found != NONE) {
                return found;
            }
        }
        return NONE;
    }

    private int leastMan(int town, int day) {
        for (int k = 0; k < men.size(); k++) {
            if (men.get(k).town == town && men.get(k).wasThere(day)) {
                return k;
            }
        }
        return NONE;
    }

    private int heirOf(int town) {
        return leastMan(town, now);
    }

    private void payBargainsOf(int man) {
        int k = nextDebt(man, NONE);
        for (int turn = 0; turn < MOST_BARGAINS && k != NONE; turn++) {
            Bargain bargain = bargains.get(k);
            payOwed(bargain, bargain.owed);
            k = nextDebt(man, k);
        }
    }

    /** By the days till which, then numbers: the man's bargain on credit behind this one. */
    private int nextDebt(int man, int behind) {
        int lastDue = behind == NONE ? NONE : bargains.get(behind).due;
        int found = NONE;
        int foundDue = NONE;
        for (int k = 0; k < bargains.size(); k++) {
            Bargain bargain = bargains.get(k);
            boolean later = bargain.due > lastDue || bargain.due == lastDue && k > behind;
            if (bargain.buyer == man && bargain.due != NONE && later && (found == NONE || bargain.due < foundDue)) {
                found = k;
                foundDue = bargain.due;
            }
        }
        return found;
    }

    private void payClaimsOf(int man) {
        for (int k = 0; k < bargains.size(); k++) {
            Bargain bargain = bargains.get(k);
            for (int i = 0; i < bargain.suretyCount && bargain.buyer == man; i++) {
                payClaim(bargain, i, bargain.claims[i]);
            }
        }
    }

    private void leaveLots(int man, int heir) {
        for (int k = 0; k < lots.size(); k++) {
            Lot lot = lots.get(k);
            if (lot.owner == man && heir == NONE) {
                lot.amount = 0;
            } else if (lot.owner == man) {
                lot.owner = heir;
            }
        }
    }

    private void leaveDues(int man, int heir) {
        for (int k = 0; k < bargains.size(); k++) {
            bargains.get(k).passTo(man, heir);
        }
    }

    private void tellPlannerPrices() {
        for (int k = 0; k < planner.lotCount; k++) {
            int kind = lots.get(planner.lotNumbers[k]).kind;
            for (int way = 0; way < planner.shipCount; way++) {
                int town = sea.shipTowns[planner.shipNumbers[way]];
                planner.setPrices(k, way, sea.lowPrice(town, kind, now), sea.highPrice(town, kind, now));
            }
            int low = sea.lowPrice(LOCAL, kind, now);
            planner.setPrices(k, Planner.SOLD_HERE, low, sea.highPrice(LOCAL, kind, now));
        }
    }

    // ---- the classes inside

    private static final class Man {
        final int town;
        final boolean winterer;
        final int came;
        int purse;
        int gone;
        int broke;
        /** Bit k: he sailed by ship k. */
        int sailed;

        Man(int town, boolean winterer, int coins, int day) {
            this.town = town;
            this.winterer = winterer;
            this.came = day;
            this.purse = coins;
            this.gone = NONE;
        }

        boolean wasThere(int day) {
            return came <= day && (gone == NONE || day < gone);
        }

        /** How many of so many coins his purse had. */
        int spend(int coins) {
            int spent = Math.min(coins, purse);
            purse -= spent;
            return spent;
        }

        /** What a full purse can't hold is lost, and told back. */
        int receive(int coins) {
            int taken = Math.min(coins, FULL_PURSE - purse);
            purse += taken;
            return coins - taken;
        }
    }

    private static final class Lot {
        final int kind;
        final int from;
        final int first;
        int amount;
        int owner;

        Lot(int kind, int amount, int owner, int from) {
            this.kind = kind;
            this.from = from;
            this.first = amount;
            this.amount = amount;
            this.owner = owner;
        }
    }

    private static final class Bargain {
        final int seller;
        final int buyer;
        final int lot;
        final int price;
        final int due;
        final int day;
        int owed;
        int fine;
        int creditor;
        int suretyCount;
        final int[] vouchers;
        final int[] claims;
        final int[] claimants;

        /** The whole price is owed at first: without credit it is paid at once. */
        Bargain(int seller, int buyer, int lot, int price, int due, int day) {
            this.seller = seller;
            this.buyer = buyer;
            this.lot = lot;
            this.price = price;
            this.due = due;
            this.day = day;
            this.owed = price;
            this.creditor = seller;
            this.vouchers = new int[MOST_SURETIES];
            this.claims = new int[MOST_SURETIES];
            this.claimants = new int[MOST_SURETIES];
        }

        boolean hasSurety(int man) {
            for (int i = 0; i < suretyCount; i++) {
                if (vouchers[i] == man) {
                    return true;
                }
            }
            return false;
        }

        void addSurety(int man) {
            if (suretyCount < MOST_SURETIES) {
                vouchers[suretyCount] = man;
                claimants[suretyCount] = man;
                suretyCount++;
            }
        }

        int allClaims() {
            int sum = 0;
            for (int i = 0; i < suretyCount; i++) {
                sum += claims[i];
            }
            return sum;
        }

        void passTo(int dead, int heir) {
            if (creditor == dead) {
                creditor = heir;
            }
            for (int i = 0; i < suretyCount; i++) {
                if (claimants[i] == dead) {
                    claimants[i] = heir;
                }
            }
        }
    }

    /** A law's clauses as code for a stack: a number stands for itself, token t is -1 - t. */
    private static final class Law {
        final int rank;
        final int toldOn;
        int binds;
        final int[] verdicts;
        /** Where each clause's code starts, and where the last one's ends. */
        final int[] starts;
        final int[] code;

        Law(int rank, int binds, int toldOn, int[] verdicts, int[] starts, int[] code) {
            this.rank = rank;
            this.binds = binds;
            this.toldOn = toldOn;
            this.verdicts = verdicts;
            this.starts = starts;
            this.code = code;
        }

        int firstTrue(long[] facts, long[] stack) {
            for (int clause = 0; clause < verdicts.length && clause + 1 < starts.length; clause++) {
                if (isTrue(clause, facts, stack)) {
                    return clause;
                }
            }
            return NONE;
        }

        private boolean isTrue(int clause, long[] facts, long[] stack) {
            int top = 0;
            for (int at = starts[clause]; at < starts[clause + 1] && at < code.length; at++) {
                int step = code[at];
                int token = -1 - step;
                if (step >= 0 || token < FACT_WORDS) {
                    if (top >= stack.length) {
                        return false;
                    }
                    stack[top] = step >= 0 ? step : facts[token];
                    top++;
                } else if (token == TOKEN_NOT && top >= 1) {
                    stack[top - 1] = 1 - stack[top - 1];
                } else if (top >= 2) {
                    top--;
                    stack[top - 1] = combine(token, stack[top - 1], stack[top]);
                }
            }
            return top == 1 && stack[0] != 0;
        }

        private static long combine(int token, long left, long right) {
            switch (token) {
                case TOKEN_OR:
                    return left | right;
                case TOKEN_AND:
                    return left & right;
                case TOKEN_PLUS:
                    return left + right;
                case TOKEN_MINUS:
                    return left - right;
                case TOKEN_TIMES:
                    return left * right;
                default:
                    return compares(token, left, right) ? 1 : 0;
            }
        }

        private static boolean compares(int token, long left, long right) {
            switch (token) {
                case TOKEN_BELOW:
                    return left < right;
                case TOKEN_NOT_ABOVE:
                    return left <= right;
                case TOKEN_EQUAL:
                    return left == right;
                case TOKEN_NOT_BELOW:
                    return left >= right;
                default:
                    return left > right;
            }
        }
    }

    /** The laws, and the facts of the deal that they are asked about. */
    private static final class Court {
        final ArrayList<Law> laws;
        final long[] facts;
        final long[] stack;
        int toldLaw;
        int toldClause;

        Court() {
            laws = new ArrayList<Law>();
            facts = new long[FACT_WORDS];
            stack = new long[LawReader.MOST_COUNTED];
            toldLaw = NONE;
            toldClause = NONE;
        }

        Law lawAt(int k) {
            return k < 0 || k >= laws.size() ? null : laws.get(k);
        }

        int inForce(int rank, int day) {
            int found = NONE;
            int latest = NONE;
            for (int k = 0; k < laws.size(); k++) {
                Law law = laws.get(k);
                boolean bound = law.binds != NONE && law.binds <= day;
                if (law.rank == rank && bound && law.binds >= latest) {
                    found = k;
                    latest = law.binds;
                }
            }
            return found;
        }

        int decide(int day) {
            for (int rank = DIET; rank >= HOUSE; rank--) {
                int k = inForce(rank, day);
                Law law = lawAt(k);
                int clause = law == null ? NONE : law.firstTrue(facts, stack);
                if (law != null && clause != NONE) {
                    toldLaw = k;
                    toldClause = clause;
                    return law.verdicts[clause];
                }
            }
            toldLaw = NONE;
            toldClause = NONE;
            return 0;
        }
    }

    /** The tape, and how a law is read from it: first cut into tokens, then clause by clause. */
    private static final class LawReader {
        static final int LONGEST_TEXT = 400;
        static final int MOST_CLAUSES = 10;
        static final int DEEPEST = 10;
        static final int MOST_COUNTED = 80;
        static final int MOST_DIGITS = 5;
        static final int LONG_NUMBER = -1;

        static final int FAULT_STRANGE = 0;
        static final int FAULT_DIGITS = 1;
        static final int FAULT_DEPTH = 2;
        static final int FAULT_COUNT = 3;
        static final int FAULT_CLAUSE = 4;

        /** Each word in six places, in the order of their tokens. */
        static final int WORD_ROOM = 6;
        static final String WORDS =
                "sellerbuyer kind  amountprice credithour  day   winterelder owes  late  shut  here  let   bar   fine  if    or    and   not   ";

        final byte[] tape;
        int length;
        final int[] tokens;
        final int[] places;
        final int[] numbers;
        int tokenCount;
        int at;
        int counted;
        int fault;
        final int[] code;
        int codeLength;
        final int[] verdicts;
        final int[] starts;
        int clauseCount;

        LawReader() {
            tape = new byte[LONGEST_TEXT];
            tokens = new int[LONGEST_TEXT + 1];
            places = new int[LONGEST_TEXT + 1];
            numbers = new int[LONGEST_TEXT + 1];
            code = new int[LONGEST_TEXT];
            verdicts = new int[MOST_CLAUSES];
            starts = new int[MOST_CLAUSES + 1];
        }

        boolean hasRoomFor(int bytes) {
            return length + bytes <= LONGEST_TEXT;
        }

        void write(int four) {
            if (!hasRoomFor(4)) {
                return;
            }
            for (int shift = 24; shift >= 0; shift -= 8) {
                tape[length] = (byte) (four >> shift);
                length++;
            }
        }

        /** The FAULT of the tape's text, or 0. */
        int readTape() {
            cutTokens();
            at = 0;
            counted = 0;
            fault = 0;
            codeLength = 0;
            clauseCount = 0;
            for (int clause = 0; clause <= MOST_CLAUSES; clause++) {
                if (!readClause() || tokens[at] == TOKEN_END) {
                    return fault;
                }
                if (!pass(TOKEN_NEXT_CLAUSE)) {
                    return fault;
                }
            }
            return fault;
        }

        /** The law of the text that readTape() has found without a FAULT. */
        Law lawOf(int rank, int binds, int toldOn) {
            int[] ownVerdicts = new int[clauseCount];
            int[] ownStarts = new int[clauseCount + 1];
            int[] ownCode = new int[codeLength];
            System.arraycopy(verdicts, 0, ownVerdicts, 0, clauseCount);
            System.arraycopy(starts, 0, ownStarts, 0, clauseCount + 1);
            System.arraycopy(code, 0, ownCode, 0, codeLength);
            return new Law(rank, binds, toldOn, ownVerdicts, ownStarts, ownCode);
        }

        // -- tokens

        private void cutTokens() {
            tokenCount = 0;
            int place = 0;
            for (int turn = 0; turn < LONGEST_TEXT && place < length; turn++) {
                int sign = tape[place];
                if (sign == ' ') {
                    place++;
                } else if (isDigit(sign)) {
                    place = cutNumber(place);
                } else if (isLetter(sign)) {
                    place = cutWord(place);
                } else {
                    place = cutSign(place);
                }
            }
            putToken(TOKEN_END, length, 0);
        }

        private void putToken(int token, int place, int number) {
            if (tokenCount < tokens.length) {
                tokens[tokenCount] = token;
                places[tokenCount] = place;
                numbers[tokenCount] = number;
                tokenCount++;
            }
        }

        private int cutNumber(int from) {
            int to = from;
            int number = 0;
            while (to < length && isDigit(tape[to])) {
                if (to - from < MOST_DIGITS) {
                    number = number * 10 + (tape[to] - '0');
                }
                to++;
            }
            putToken(TOKEN_NUMBER, from, to - from > MOST_DIGITS ? LONG_NUMBER : number);
            return to;
        }

        private int cutWord(int from) {
            int to = from;
            while (to < length && isLetter(tape[to])) {
                to++;
            }
            putToken(wordToken(from, to), from, 0);
            return to;
        }

        private int cutSign(int from) {
            boolean orEqual = from + 1 < length && tape[from + 1] == '=';
            int token = signToken(tape[from], orEqual);
            putToken(token, from, 0);
            return token == TOKEN_NOT_ABOVE || token == TOKEN_NOT_BELOW ? from + 2 : from + 1;
        }

        private int wordToken(int from, int to) {
            if (to - from > WORD_ROOM) {
                return TOKEN_STRANGE;
            }
            for (int word = 0; word < ALL_WORDS; word++) {
                if (isWord(word, from, to)) {
                    return word;
                }
            }
            return TOKEN_STRANGE;
        }

        private boolean isWord(int word, int from, int to) {
            for (int i = 0; i < WORD_ROOM; i++) {
                int sign = from + i < to ? tape[from + i] : ' ';
                if (WORDS.charAt(word * WORD_ROOM + i) != sign) {
                    return false;
                }
            }
            return true;
        }

        private static boolean isDigit(int sign) {
            return sign >= '0' && sign <= '9';
        }

        private static boolean isLetter(int sign) {
            return sign >= 'a' && sign <= 'z';
        }

        private static int signToken(int sign, boolean orEqual) {
            switch (sign) {
                case '[':
                    return TOKEN_OPEN_TEST;
                case ']':
                    return TOKEN_CLOSE_TEST;
                case '(':
                    return TOKEN_OPEN_SUM;
                case ')':
                    return TOKEN_CLOSE_SUM;
                case ';':
                    return TOKEN_NEXT_CLAUSE;
                case '+':
                    return TOKEN_PLUS;
                case '-':
                    return TOKEN_MINUS;
                case '*':
                    return TOKEN_TIMES;
                case '=':
                    return TOKEN_EQUAL;
                case '<':
                    return orEqual ? TOKEN_NOT_ABOVE : TOKEN_BELOW;
                case '>':
                    return orEqual ? TOKEN_NOT_BELOW : TOKEN_ABOVE;
                default:
                    return TOKEN_STRANGE;
            }
        }

        // -- clauses

        private boolean readClause() {
            int verb = tokens[at];
            if (verb != TOKEN_LET && verb != TOKEN_BAR && verb != TOKEN_FINE) {
                return fail(FAULT_STRANGE);
            }
            if (clauseCount >= MOST_CLAUSES) {
                return fail(FAULT_CLAUSE);
            }
            goOn();
            verdicts[clauseCount] = verb == TOKEN_BAR ? BARRED : 0;
            if (verb == TOKEN_FINE && !readFine()) {
                return false;
            }
            if (!pass(TOKEN_IF) || !readTest(0)) {
                return false;
            }
            // the first clause starts at 0, where the row is never changed
            clauseCount++;
            starts[clauseCount] = codeLength;
            return true;
        }

        private boolean readFine() {
            if (tokens[at] != TOKEN_NUMBER) {
                return fail(FAULT_STRANGE);
            }
            if (numbers[at] == LONG_NUMBER) {
                return fail(FAULT_DIGITS);
            }
            verdicts[clauseCount] = FINED + numbers[at];
            goOn();
            return true;
        }

        /** Facts joined by and bind tighter: an or waits till the part behind it is whole. */
        private boolean readTest(int depth) {
            boolean orWaits = false;
            boolean andWaits = false;
            for (int turn = 0; turn <= LONGEST_TEXT; turn++) {
                if (!readFact(depth)) {
                    return false;
                }
                if (andWaits) {
                    emit(-1 - TOKEN_AND);
                }
                andWaits = tokens[at] == TOKEN_AND;
                if (!andWaits) {
                    if (orWaits) {
                        emit(-1 - TOKEN_OR);
                    }
                    orWaits = true;
                    if (tokens[at] != TOKEN_OR) {
                        return true;
                    }
                }
                goOn();
            }
            return false;
        }

        private boolean readFact(int depth) {
            boolean opens = tokens[at] == TOKEN_OPEN_TEST;
            if (opens || tokens[at] == TOKEN_NOT) {
                if (depth >= DEEPEST) {
                    return fail(FAULT_DEPTH);
                }
                goOn();
                if (opens) {
                    return readTest(depth + 1) && pass(TOKEN_CLOSE_TEST);
                }
                if (!readFact(depth + 1)) {
                    return false;
                }
                emit(-1 - TOKEN_NOT);
                return true;
            }
            if (!readSum(depth)) {
                return false;
            }
            int sign = tokens[at];
            if (sign < TOKEN_BELOW || sign > TOKEN_ABOVE) {
                return fail(FAULT_STRANGE);
            }
            if (counted >= MOST_COUNTED) {
                return fail(FAULT_COUNT);
            }
            counted++;
            goOn();
            if (!readSum(depth)) {
                return false;
            }
            emit(-1 - sign);
            return true;
        }

        /** Values joined by * bind tighter: a + or - waits till the term behind it is whole. */
        private boolean readSum(int depth) {
            int waiting = NONE;
            boolean timesWaits = false;
            for (int turn = 0; turn <= LONGEST_TEXT; turn++) {
                if (!readValue(depth)) {
                    return false;
                }
                if (timesWaits) {
                    emit(-1 - TOKEN_TIMES);
                }
                int token = tokens[at];
                timesWaits = token == TOKEN_TIMES;
                if (!timesWaits) {
                    if (waiting != NONE) {
                        emit(-1 - waiting);
                    }
                    waiting = token;
                    if (token != TOKEN_PLUS && token != TOKEN_MINUS) {
                        return true;
                    }
                }
                goOn();
            }
            return false;
        }

        private boolean readValue(int depth) {
            int token = tokens[at];
            boolean opens = token == TOKEN_OPEN_SUM;
            if (!opens && token != TOKEN_NUMBER && token >= FACT_WORDS) {
                return fail(FAULT_STRANGE);
            }
            if (token == TOKEN_NUMBER && numbers[at] == LONG_NUMBER) {
                return fail(FAULT_DIGITS);
            }
            if (opens && depth >= DEEPEST) {
                return fail(FAULT_DEPTH);
            }
            if (counted >= MOST_COUNTED) {
                return fail(FAULT_COUNT);
            }
            counted++;
            if (!opens) {
                emit(token == TOKEN_NUMBER ? numbers[at] : -1 - token);
                goOn();
                return true;
            }
            goOn();
            if (!readSum(depth + 1)) {
                return false;
            }
            if (tokens[at] != TOKEN_CLOSE_SUM) {
                return fail(FAULT_STRANGE);
            }
            goOn();
            return true;
        }

        private void goOn() {
            if (at + 1 < tokenCount) {
                at++;
            }
        }

        private boolean pass(int token) {
            if (tokens[at] != token) {
                return fail(FAULT_STRANGE);
            }
            goOn();
            return true;
        }

        private boolean fail(int why) {
            fault = 1 + 8 * places[at] + why;
            return false;
        }

        private void emit(int step) {
            if (codeLength < code.length) {
                code[codeLength] = step;
                codeLength++;
            }
        }
    }

    /** Weighings, and the spans that they leave together. */
    private static final class Measures {
        static final int MOST_WEIGHINGS = 100;
        static final int MOST_THEIRS = 2000000000;

        final int[] kinds;
        final int[] ours;
        final int[] theirs;
        final int[] toldOn;
        final int[] backOn;
        int count;

        Measures() {
            kinds = new int[MOST_WEIGHINGS];
            ours = new int[MOST_WEIGHINGS];
            theirs = new int[MOST_WEIGHINGS];
            toldOn = new int[MOST_WEIGHINGS];
            backOn = new int[MOST_WEIGHINGS];
        }

        int add(int kind, int our, int their, int day) {
            if (count >= MOST_WEIGHINGS) {
                return NONE;
            }
            kinds[count] = kind;
            ours[count] = our;
            theirs[count] = their;
            toldOn[count] = day;
            backOn[count] = NONE;
            count++;
            return count - 1;
        }

        boolean withdraw(int k, int day) {
            if (k < 0 || k >= count || backOn[k] != NONE) {
                return false;
            }
            backOn[k] = day;
            return true;
        }

        private boolean isKnown(int k, int kind, int day) {
            return kinds[k] == kind && toldOn[k] <= day && (backOn[k] == NONE || day < backOn[k]);
        }

        /** The weighing with the greatest lower end, of alike ones the first; NONE without any. */
        int greatestLower(int kind, int day) {
            int found = NONE;
            for (int k = 0; k < count; k++) {
                if (isKnown(k, kind, day) && (found == NONE || lowerExceeds(k, found))) {
                    found = k;
                }
            }
            return found;
        }

        /** The weighing with the least upper end, of alike ones the first; NONE without any. */
        int leastUpper(int kind, int day) {
            int found = NONE;
            for (int k = 0; k < count; k++) {
                if (isKnown(k, kind, day) && (found == NONE || upperExceeds(found, k))) {
                    found = k;
                }
            }
            return found;
        }

        private boolean lowerExceeds(int a, int b) {
            return (long) lowerAbove(a) * lowerBelow(b) > (long) lowerAbove(b) * lowerBelow(a);
        }

        private boolean upperExceeds(int a, int b) {
            return (long) upperAbove(a) * upperBelow(b) > (long) upperAbove(b) * upperBelow(a);
        }

        /** The lower end of a lies above the upper end of b. */
        private boolean liesAbove(int a, int b) {
            return (long) lowerAbove(a) * upperBelow(b) > (long) upperAbove(b) * lowerBelow(a);
        }

        int lowerAbove(int k) {
            return isWeighing(k) ? theirs[k] - 1 : 0;
        }

        int lowerBelow(int k) {
            return isWeighing(k) ? ours[k] + 1 : 1;
        }

        int upperAbove(int k) {
            return isWeighing(k) ? theirs[k] + 1 : 1;
        }

        int upperBelow(int k) {
            return isWeighing(k) ? ours[k] - 1 : 0;
        }

        private boolean isWeighing(int k) {
            return k >= 0 && k < count;
        }

        /** The first weighing that quarrels with one told ahead of it; NONE without a quarrel. */
        int greaterQuarreller(int kind, int day) {
            int lower = NONE;
            int upper = NONE;
            for (int k = 0; k < count; k++) {
                if (isKnown(k, kind, day)) {
                    if (lower != NONE && (liesAbove(lower, k) || liesAbove(k, upper))) {
                        return k;
                    }
                    lower = lower == NONE || lowerExceeds(k, lower) ? k : lower;
                    upper = upper == NONE || upperExceeds(upper, k) ? k : upper;
                }
            }
            return NONE;
        }

        /** The first weighing that quarrels with this one; NONE without such. */
        int lesserQuarreller(int kind, int day, int greater) {
            if (!isWeighing(greater) || !isKnown(greater, kind, day)) {
                return NONE;
            }
            for (int k = 0; k < greater; k++) {
                if (isKnown(k, kind, day) && (liesAbove(k, greater) || liesAbove(greater, k))) {
                    return k;
                }
            }
            return NONE;
        }

        int leastOf(int kind, int amount, int day) {
            int k = greatestLower(kind, day);
            int below = lowerBelow(k);
            return below < 1 ? NONE : capped((long) amount * lowerAbove(k) / below);
        }

        int mostOf(int kind, int amount, int day) {
            int k = leastUpper(kind, day);
            int below = upperBelow(k);
            return below < 1 ? MOST_THEIRS : capped(((long) amount * upperAbove(k) + below - 1) / below);
        }

        private static int capped(long amount) {
            return (int) Math.min(amount, MOST_THEIRS);
        }
    }

    /** Ships, news of prices, and ports shut. */
    private static final class Sea {
        static final int MOST_SHIPS = 20;
        static final int MOST_NEWS = 200;
        static final int MOST_CLOSINGS = 20;

        final int[] shipTowns;
        final int[] shipDays;
        final int[] shipUnderWay;
        final int[] shipRooms;
        int shipCount;
        final int[] newsTowns;
        final int[] newsKinds;
        final int[] newsLows;
        final int[] newsHighs;
        final int[] newsDays;
        int newsCount;
        final int[] closedTowns;
        final int[] closedFirst;
        final int[] closedLast;
        final int[] closedRead;
        int closingCount;

        Sea() {
            shipTowns = new int[MOST_SHIPS];
            shipDays = new int[MOST_SHIPS];
            shipUnderWay = new int[MOST_SHIPS];
            shipRooms = new int[MOST_SHIPS];
            newsTowns = new int[MOST_NEWS];
            newsKinds = new int[MOST_NEWS];
            newsLows = new int[MOST_NEWS];
            newsHighs = new int[MOST_NEWS];
            newsDays = new int[MOST_NEWS];
            closedTowns = new int[MOST_CLOSINGS];
            closedFirst = new int[MOST_CLOSINGS];
            closedLast = new int[MOST_CLOSINGS];
            closedRead = new int[MOST_CLOSINGS];
        }

        int addShip(int town, int day, int underWay, int room) {
            if (shipCount >= MOST_SHIPS) {
                return NONE;
            }
            shipTowns[shipCount] = town;
            shipDays[shipCount] = day;
            shipUnderWay[shipCount] = underWay;
            shipRooms[shipCount] = room;
            shipCount++;
            return shipCount - 1;
        }

        int comingOf(int ship) {
            return ship < 0 || ship >= shipCount ? NONE : shipDays[ship] + shipUnderWay[ship];
        }

        /** By their days, then numbers: the ship behind this one that has not left for a port not shut. */
        int nextOpenShip(int behind, int now) {
            int lastDay = behind < 0 || behind >= shipCount ? NONE : shipDays[behind];
            int found = NONE;
            for (int k = 0; k < shipCount; k++) {
                boolean later = shipDays[k] > lastDay || shipDays[k] == lastDay && k > behind;
                boolean open = shipDays[k] >= now && !closedBy(shipTowns[k], comingOf(k), now);
                if (later && open && (found == NONE || shipDays[k] < shipDays[found])) {
                    found = k;
                }
            }
            return found;
        }

        int addNews(int town, int kind, int low, int high, int day) {
            if (newsCount >= MOST_NEWS) {
                return NONE;
            }
            newsTowns[newsCount] = town;
            newsKinds[newsCount] = kind;
            newsLows[newsCount] = low;
            newsHighs[newsCount] = high;
            newsDays[newsCount] = day;
            newsCount++;
            return newsCount;
        }

        private int latestNews(int town, int kind, int known) {
            for (int k = newsCount - 1; k >= 0; k--) {
                if (newsTowns[k] == town && newsKinds[k] == kind && newsDays[k] <= known) {
                    return k;
                }
            }
            return NONE;
        }

        int lowPrice(int town, int kind, int known) {
            int k = latestNews(town, kind, known);
            return k == NONE ? 0 : newsLows[k];
        }

        int highPrice(int town, int kind, int known) {
            int k = latestNews(town, kind, known);
            return k == NONE ? 0 : newsHighs[k];
        }

        int addClosing(int town, int first, int last) {
            if (closingCount >= MOST_CLOSINGS) {
                return NONE;
            }
            closedTowns[closingCount] = town;
            closedFirst[closingCount] = first;
            closedLast[closingCount] = last;
            closedRead[closingCount] = NONE;
            closingCount++;
            return closingCount - 1;
        }

        boolean readClosing(int k, int day) {
            if (k < 0 || k >= closingCount || closedRead[k] != NONE) {
                return false;
            }
            closedRead[k] = day;
            return true;
        }

        private boolean covers(int k, int town, int day) {
            return closedTowns[k] == town && closedFirst[k] <= day && day <= closedLast[k];
        }

        boolean closedBy(int town, int day, int read) {
            for (int k = 0; k < closingCount; k++) {
                if (covers(k, town, day) && closedRead[k] != NONE && closedRead[k] <= read) {
                    return true;
                }
            }
            return false;
        }

        /** Read or not. */
        boolean closureTold(int town, int day) {
            for (int k = 0; k < closingCount; k++) {
                if (covers(k, town, day)) {
                    return true;
                }
            }
            return false;
        }
    }

    /** The best way for a man's lots: a way is a place in the row of ships, or SOLD_HERE. */
    private static final class Planner {
        static final int MOST_PLANNED_LOTS = 5;
        static final int MOST_PLANNED_SHIPS = 4;
        static final int SOLD_HERE = 4;
        static final int WAYS = 5;

        final int[] lotNumbers;
        final int[] amounts;
        int lotCount;
        final int[] shipNumbers;
        final int[] rooms;
        int shipCount;
        /** The worth of lot k by way w stands at k * WAYS + w. */
        final long[] lows;
        final long[] highs;
        /** The most that the lots from k on could bring if each had room wherever it likes. */
        final long[] hopes;
        final int[] tried;
        final int[] best;
        long bestLow;
        long bestHigh;
        boolean made;

        Planner() {
            lotNumbers = new int[MOST_PLANNED_LOTS];
            amounts = new int[MOST_PLANNED_LOTS];
            shipNumbers = new int[MOST_PLANNED_SHIPS];
            rooms = new int[MOST_PLANNED_SHIPS];
            lows = new long[MOST_PLANNED_LOTS * WAYS];
            highs = new long[MOST_PLANNED_LOTS * WAYS];
            hopes = new long[MOST_PLANNED_LOTS + 1];
            tried = new int[MOST_PLANNED_LOTS];
            best = new int[MOST_PLANNED_LOTS];
        }

        void clearPlan() {
            lotCount = 0;
            shipCount = 0;
        }

        void addLot(int number, int amount) {
            if (lotCount < MOST_PLANNED_LOTS) {
                lotNumbers[lotCount] = number;
                amounts[lotCount] = amount;
                lotCount++;
            }
        }

        void addShip(int number, int room) {
            if (shipCount < MOST_PLANNED_SHIPS) {
                shipNumbers[shipCount] = number;
                rooms[shipCount] = room;
                shipCount++;
            }
        }

        void setPrices(int k, int way, int low, int high) {
            if (k >= 0 && k < MOST_PLANNED_LOTS && way >= 0 && way < WAYS) {
                lows[k * WAYS + way] = (long) amounts[k] * low;
                highs[k * WAYS + way] = (long) amounts[k] * high;
            }
        }

        int shipOf(int k) {
            if (k < 0 || k >= lotCount || best[k] < 0 || best[k] >= shipCount) {
                return NONE;
            }
            return shipNumbers[best[k]];
        }

        void findBest() {
            made = true;
            bestLow = NONE;
            bestHigh = NONE;
            hopes[lotCount] = 0;
            for (int k = lotCount - 1; k >= 0; k--) {
                long most = lows[k * WAYS + SOLD_HERE];
                for (int way = 0; way < shipCount; way++) {
                    most = Math.max(most, lows[k * WAYS + way]);
                }
                hopes[k] = hopes[k + 1] + most;
            }
            tryWays(0, 0, 0);
        }

        /** Ways are tried from the first to here, so of equal plans the first found is the one asked for. */
        private void tryWays(int k, long low, long high) {
            if (k > lotCount || k >= hopes.length || low + hopes[k] < bestLow) {
                return;
            }
            if (k == lotCount) {
                keepIfBetter(low, high);
                return;
            }
            for (int way = 0; way < shipCount; way++) {
                if (amounts[k] <= rooms[way]) {
                    rooms[way] -= amounts[k];
                    tried[k] = way;
                    tryWays(k + 1, low + lows[k * WAYS + way], high + highs[k * WAYS + way]);
                    rooms[way] += amounts[k];
                }
            }
            tried[k] = SOLD_HERE;
            tryWays(k + 1, low + lows[k * WAYS + SOLD_HERE], high + highs[k * WAYS + SOLD_HERE]);
        }

        private void keepIfBetter(long low, long high) {
            if (low > bestLow || low == bestLow && high > bestHigh) {
                bestLow = low;
                bestHigh = high;
                System.arraycopy(tried, 0, best, 0, lotCount);
            }
        }
    }

    /** Hands that may break a port together. */
    private static final class Crowd {
        static final int MOST_HANDS = 8;

        final int[] gains;
        final int[] fines;
        final int[] crowds;
        int handCount;
        final int[] holding;
        int holdingCount;

        Crowd() {
            gains = new int[MOST_HANDS];
            fines = new int[MOST_HANDS];
            crowds = new int[MOST_HANDS];
            holding = new int[1 << MOST_HANDS];
        }

        boolean setHand(int k, int gain, int fine, int enough) {
            if (k < 0 || k >= MOST_HANDS || k > handCount) {
                return false;
            }
            gains[k] = gain;
            fines[k] = fine;
            crowds[k] = enough;
            handCount = Math.max(handCount, k + 1);
            return true;
        }

        int findHolding(int n) {
            int hands = Math.min(n, MOST_HANDS);
            holdingCount = 0;
            for (int set = 0; set < 1 << hands; set++) {
                if (isStable(set, hands)) {
                    holding[holdingCount] = set;
                    holdingCount++;
                }
            }
            return holdingCount;
        }

        private boolean isStable(int set, int hands) {
            int size = Integer.bitCount(set);
            for (int k = 0; k < hands; k++) {
                boolean breaks = (set >> k & 1) != 0;
                if (breaks && profit(k, size) < 0 || !breaks && profit(k, size + 1) > 0) {
                    return false;
                }
            }
            return true;
        }

        private int profit(int k, int size) {
            return gains[k] - (size < crowds[k] ? fines[k] : 0);
        }
    }

    /** The entries of the two ends, and how they pair. */
    private static final class Books {
        static final int OURS = 0;
        static final int HOME = 1;
        static final int MOST_ENTRIES = 10;
        static final int WIDEST = 1000;
        /** Above any sum of differences, so that one number weighs pairs, then coins, then days. */
        static final int ABOVE_SUMS = MOST_ENTRIES * WIDEST + 1;

        final int[] counts;
        final int[][] days;
        final int[][] men;
        final int[][] coins;
        final int[] partners;
        int coinsApart;
        int daysApart;
        boolean paired;
        /** The worth of the pair of entry i of ours and j of home's at i * MOST_ENTRIES + j; 0: no pair. */
        final int[] pairs;
        /** Row i, column m: the best worth of ours from i on when the set m of home's is taken. */
        int[] worths;

        Books() {
            counts = new int[2];
            days = new int[2][MOST_ENTRIES];
            men = new int[2][MOST_ENTRIES];
            coins = new int[2][MOST_ENTRIES];
            partners = new int[MOST_ENTRIES];
            pairs = new int[MOST_ENTRIES * MOST_ENTRIES];
        }

        int add(int book, int day, int man, int amount) {
            if (book < OURS || book > HOME || counts[book] >= MOST_ENTRIES) {
                return NONE;
            }
            int k = counts[book];
            days[book][k] = day;
            men[book][k] = man;
            coins[book][k] = amount;
            counts[book]++;
            paired = false;
            return k;
        }

        int empty() {
            int gone = counts[OURS] + counts[HOME];
            if (gone > 0) {
                paired = false;
            }
            counts[OURS] = 0;
            counts[HOME] = 0;
            return gone;
        }

        int findPairs(int coinsWithin, int daysWithin) {
            int rows = counts[OURS];
            int columns = 1 << counts[HOME];
            if (worths == null) {
                worths = new int[(MOST_ENTRIES + 1) << MOST_ENTRIES];
            }
            weighPairs(coinsWithin, daysWithin);
            for (int taken = 0; taken < columns; taken++) {
                worths[rows * columns + taken] = 0;
            }
            for (int i = rows - 1; i >= 0; i--) {
                for (int taken = 0; taken < columns; taken++) {
                    // ours ahead of i can't have taken more of home's than they are
                    if (Integer.bitCount(taken) <= i) {
                        worths[i * columns + taken] = bestWorth(i, taken, columns);
                    }
                }
            }
            return keepFirstBest(columns);
        }

        private void weighPairs(int coinsWithin, int daysWithin) {
            for (int i = 0; i < counts[OURS]; i++) {
                for (int j = 0; j < counts[HOME]; j++) {
                    int coinsOff = coinsBetween(i, j);
                    int daysOff = daysBetween(i, j);
                    boolean pair = men[OURS][i] == men[HOME][j] && coinsOff <= coinsWithin && daysOff <= daysWithin;
                    pairs[i * MOST_ENTRIES + j] = pair ? (ABOVE_SUMS - coinsOff) * ABOVE_SUMS - daysOff : 0;
                }
            }
        }

        private int coinsBetween(int i, int j) {
            return Math.abs(coins[OURS][i] - coins[HOME][j]);
        }

        private int daysBetween(int i, int j) {
            return Math.abs(days[OURS][i] - days[HOME][j]);
        }

        private int bestWorth(int i, int taken, int columns) {
            int next = (i + 1) * columns;
            int most = worths[next + taken];
            for (int j = 0; j < counts[HOME]; j++) {
                int worth = pairs[i * MOST_ENTRIES + j];
                if (worth > 0 && (taken >> j & 1) == 0) {
                    most = Math.max(most, worth + worths[next + (taken | 1 << j)]);
                }
            }
            return most;
        }

        private int keepFirstBest(int columns) {
            int taken = 0;
            coinsApart = 0;
            daysApart = 0;
            for (int i = 0; i < counts[OURS]; i++) {
                int partner = firstPartner(i, taken, columns);
                partners[i] = partner;
                if (partner != NONE) {
                    taken |= 1 << partner;
                    coinsApart += coinsBetween(i, partner);
                    daysApart += daysBetween(i, partner);
                }
            }
            paired = true;
            return Integer.bitCount(taken);
        }

        /** The least of home's with which entry i still comes to the best worth. */
        private int firstPartner(int i, int taken, int columns) {
            int next = (i + 1) * columns;
            int goal = worths[i * columns + taken];
            for (int j = 0; j < counts[HOME]; j++) {
                int worth = pairs[i * MOST_ENTRIES + j];
                if (worth > 0 && (taken >> j & 1) == 0 && worth + worths[next + (taken | 1 << j)] == goal) {
                    return j;
                }
            }
            return NONE;
        }
    }
}
