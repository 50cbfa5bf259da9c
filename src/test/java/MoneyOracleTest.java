import java.util.ArrayList;
import java.util.Comparator;
import java.util.List;
import java.util.Random;

/** Promises 5, 8, 20 to 27 on random runs, against a ledger of single debts. */
public final class MoneyOracleTest {
    private static final Answers A = new Answers("MoneyOracleTest");

    /** A bargain's rest or a surety's claim: whose purse it comes from, and where it goes. */
    private static final class Debt {
        int bargain;
        int surety;
        int debtor;
        int owner;
        int town;
        int due;
        int coins;
    }

    private static final class Ledger {
        final List<int[]> men = new ArrayList<>();
        final List<Debt> debts = new ArrayList<>();
        final List<List<Integer>> sureties = new ArrayList<>();
        final List<int[]> bargains = new ArrayList<>();
        final List<int[]> lots = new ArrayList<>();
        final int[] chests = new int[10];
        int now;

        int move(Debt debt, int payer, int most) {
            int coins = Math.min(Math.min(most, debt.coins), men.get(payer)[1]);
            men.get(payer)[1] -= coins;
            debt.coins -= coins;
            if (debt.owner < 0) {
                chests[debt.town] += coins;
            } else {
                men.get(debt.owner)[1] += coins;
            }
            return coins;
        }

        Debt find(int bargain, int surety) {
            for (Debt debt : debts) {
                if (debt.bargain == bargain && debt.surety == surety) {
                    return debt;
                }
            }
            return null;
        }

        void add(int bargain, int surety, int debtor, int owner, int due, int coins) {
            Debt debt = new Debt();
            debt.bargain = bargain;
            debt.surety = surety;
            debt.debtor = debtor;
            debt.owner = owner;
            debt.town = men.get(owner)[0];
            debt.due = due;
            debt.coins = coins;
            debts.add(debt);
        }

        int call(int bargain) {
            Debt rest = find(bargain, -1);
            if (rest == null || rest.coins == 0 || rest.due >= now) {
                return -1;
            }
            int came = move(rest, rest.debtor, rest.coins);
            List<Integer> order = sureties.get(bargain);
            for (int i = 0; i < order.size(); i++) {
                int left = order.size() - i;
                int share = rest.coins / left + (rest.coins % left == 0 ? 0 : 1);
                int paid = move(rest, order.get(i), share);
                find(bargain, i).coins += paid;
                came += paid;
            }
            return came;
        }

        int die(int man) {
            if (man < 0 || man >= men.size() || men.get(man)[2] != 0) {
                return -2;
            }
            men.get(man)[2] = 1;
            List<Debt> own = new ArrayList<>();
            for (Debt debt : debts) {
                if (debt.debtor == man) {
                    own.add(debt);
                }
            }
            own.sort(Comparator.comparing((Debt d) -> d.surety >= 0).thenComparing(d -> d.surety >= 0 ? 0 : d.due)
                    .thenComparing(d -> d.bargain).thenComparing(d -> d.surety));
            for (Debt debt : own) {
                move(debt, man, debt.coins);
            }
            int heir = -1;
            for (int k = men.size() - 1; k >= 0; k--) {
                if (men.get(k)[2] == 0 && men.get(k)[0] == men.get(man)[0]) {
                    heir = k;
                }
            }
            if (heir < 0) {
                chests[men.get(man)[0]] += men.get(man)[1];
            } else {
                men.get(heir)[1] += men.get(man)[1];
            }
            men.get(man)[1] = 0;
            for (Debt debt : debts) {
                debt.owner = debt.owner == man ? heir : debt.owner;
            }
            for (int[] lot : lots) {
                if (lot[0] == man) {
                    lot[1] = heir < 0 ? 0 : lot[1];
                    lot[0] = heir < 0 ? man : heir;
                }
            }
            return heir;
        }

        int sum(int man, boolean late) {
            int sum = 0;
            for (Debt debt : debts) {
                sum += debt.debtor == man && (!late || debt.surety >= 0 || debt.due < now) ? debt.coins : 0;
            }
            return sum;
        }
    }

    public static void main(String[] args) {
        Random random = new Random(20260303);
        for (int run = 0; run < 300; run++) {
            run(random);
        }
        A.end();
    }

    private static void run(Random random) {
        MerchantYard y = new MerchantYard();
        Ledger l = new Ledger();
        int towns = 1 + random.nextInt(4);
        for (int call = 0; call < 120; call++) {
            step(y, l, towns, random);
        }
        for (int k = 0; k < l.men.size(); k++) {
            A.due("purse of " + k, y.men(k, 2), l.men.get(k)[1]);
            A.due("there, " + k, y.men(k, 1), l.men.get(k)[2] == 0 ? 1 : 0);
            A.due("owes, " + k, y.men(k, 3), l.sum(k, false));
            A.due("late, " + k, y.men(k, 4), l.sum(k, true));
        }
        for (int town = 0; town < 10; town++) {
            A.due("chest of " + town, y.chest(town), l.chests[town]);
        }
        for (int k = 0; k < l.lots.size(); k++) {
            A.due("man of lot " + k, y.lot(k, 2), l.lots.get(k)[0]);
            A.due("amount of lot " + k, y.lot(k, 1), l.lots.get(k)[1]);
        }
        for (Debt debt : l.debts) {
            boolean rest = debt.surety < 0;
            A.due("debt", rest ? y.bargain(debt.bargain, 4) : y.sureties(debt.bargain, debt.surety, 1), debt.coins);
            A.due("to whom", rest ? y.bargain(debt.bargain, 9) : y.sureties(debt.bargain, debt.surety, 2), debt.owner);
        }
        A.due("bargains", y.count(4), l.bargains.size());
    }

    private static void step(MerchantYard y, Ledger l, int towns, Random random) {
        int men = l.men.size();
        int man = random.nextInt(men + 1);
        int bargain = random.nextInt(l.bargains.size() + 1);
        int coins = random.nextInt(60);
        switch (random.nextInt(12)) {
            case 0:
                int town = random.nextInt(towns) == 0 ? 8 : random.nextInt(towns);
                if (y.man(town, false, 3 * coins) >= 0) {
                    l.men.add(new int[] {town, 3 * coins, 0});
                }
                break;
            case 1:
                if (y.bring(man, 0, 9) >= 0) {
                    l.lots.add(new int[] {man, 9});
                }
                break;
            case 2:
                A.due("pay", y.pay(bargain, coins), pay(l, bargain, -1, coins));
                break;
            case 3:
                A.due("call", y.call(bargain), l.call(bargain));
                break;
            case 4:
                int i = random.nextInt(3);
                A.due("claim", y.claim(bargain, i, coins), pay(l, bargain, i, coins));
                break;
            case 5:
                if (random.nextInt(3) == 0) {
                    A.due("die", y.die(man), l.die(man));
                }
                break;
            case 6:
                if (random.nextInt(4) == 0 && y.leave(man)) {
                    l.men.get(man)[2] = 1;
                }
                break;
            case 7:
                l.now += random.nextInt(3);
                y.clock(l.now);
                break;
            case 8:
            case 9:
                if (y.surety(bargain, man) > 0) {
                    int[] row = l.bargains.get(bargain);
                    l.sureties.get(bargain).add(man);
                    l.add(bargain, l.sureties.get(bargain).size() - 1, row[1], man, 0, 0);
                }
                break;
            default:
                deal(y, l, random.nextInt(l.lots.size() + 1), man, coins, random.nextInt(5));
        }
    }

    private static int pay(Ledger l, int bargain, int surety, int coins) {
        Debt debt = l.find(bargain, surety);
        return debt == null || debt.coins == 0 || coins == 0 ? -1 : l.move(debt, debt.debtor, coins);
    }

    private static void deal(MerchantYard y, Ledger l, int lot, int buyer, int price, int credit) {
        int seller = lot < l.lots.size() ? l.lots.get(lot)[0] : 0;
        int got = y.deal(seller, buyer, lot, 2, price, credit, 0);
        if (got < 100) {
            return;
        }
        int number = l.bargains.size();
        A.due("bargain", got, 100 + number);
        l.lots.get(lot)[1] -= 2;
        l.lots.add(new int[] {buyer, 2});
        l.bargains.add(new int[] {seller, buyer});
        l.sureties.add(new ArrayList<>());
        l.add(number, -1, buyer, seller, l.now + credit, price);
        if (credit == 0) {
            l.move(l.find(number, -1), buyer, price);
        }
    }
}
