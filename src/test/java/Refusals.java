import java.util.ArrayList;
import java.util.List;

/**
 * Whether a refused call leaves an object as it was. A scene makes the object; all questions are then asked of it, and
 * series of calls that act, once without the refused call and once behind it. Each series has a new object of the
 * scene, so that no object sees more than 512 calls.
 */
final class Refusals {
    interface Scene {
        MerchantYard make();
    }

    interface Call {
        long of(MerchantYard yard);
    }

    private static final int QUESTIONS_AT_ONCE = 200;

    private final Answers answers;
    private final Scene scene;
    private final List<List<String>> names = new ArrayList<>();
    private final List<List<Call>> rounds = new ArrayList<>();
    private final List<long[]> before = new ArrayList<>();

    Refusals(Answers answers, Scene scene) {
        this.answers = answers;
        this.scene = scene;
        MerchantYard yard = scene.make();
        int now = (int) yard.count(0);
        newRound();
        askOfHouse(yard);
        askOfLaws(yard, now);
        askOfMeasures(now);
        askOfSea(yard, now);
        actOnLaws(yard, now);
        actOnBargains(yard);
        actOnMeasures(yard);
        actAtSea(yard, now);
        actOnTheRest();
        for (List<Call> round : rounds) {
            before.add(answersOf(round, scene.make()));
        }
    }

    /** The call answers as due, and what is asked behind it is answered as if it had not been. */
    void due(String what, Call refused, long want) {
        for (int i = 0; i < rounds.size(); i++) {
            MerchantYard yard = scene.make();
            long got = refused.of(yard);
            if (i == 0) {
                answers.due(what, got, want);
            }
            compare(what, i, answersOf(rounds.get(i), yard));
        }
    }

    private void compare(String what, int round, long[] after) {
        long[] due = before.get(round);
        for (int k = 0; k < due.length; k++) {
            if (after[k] != due[k]) {
                answers.due(names.get(round).get(k) + " behind " + what, after[k], due[k]);
                return;
            }
        }
        answers.due("all as it was behind " + what, 0, 0);
    }

    private static long[] answersOf(List<Call> round, MerchantYard yard) {
        long[] got = new long[round.size()];
        for (int k = 0; k < got.length; k++) {
            got[k] = round.get(k).of(yard);
        }
        return got;
    }

    private void newRound() {
        names.add(new ArrayList<>());
        rounds.add(new ArrayList<>());
    }

    private void act(String name, Call call) {
        names.get(names.size() - 1).add(name);
        rounds.get(rounds.size() - 1).add(call);
    }

    private void ask(String name, Call call) {
        if (rounds.get(rounds.size() - 1).size() >= QUESTIONS_AT_ONCE) {
            newRound();
        }
        act(name, call);
    }

    private static long bit(boolean yes) {
        return yes ? 1 : 0;
    }

    // ---- questions

    private void askOfHouse(MerchantYard yard) {
        for (int i = 0; i < 14; i++) {
            int what = i;
            ask("count(" + what + ")", y -> y.count(what));
            for (int n = 0; n < 10; n++) {
                int k = n;
                ask("chest(" + k + ")", y -> y.chest(k));
                ask("holds(" + k + ")", y -> y.holds(k));
                ask("joined(" + (k - 2) + ")", y -> y.joined(k - 2));
            }
        }
        askRows("men", yard.count(1), 8, MerchantYard::men);
        askRows("lot", yard.count(2), 5, MerchantYard::lot);
        askRows("laws", yard.count(3), 4, MerchantYard::laws);
        askRows("bargain", yard.count(4), 10, MerchantYard::bargain);
        askRows("broke", yard.count(1), 1, (y, k, what) -> y.broke(k));
        for (int i = 0; i < 3; i++) {
            int surety = i;
            askRows("surety " + i + " of", yard.count(4), 3, (y, k, what) -> y.sureties(k, surety, what));
        }
    }

    private interface Row {
        long of(MerchantYard yard, int k, int what);
    }

    private void askRows(String name, long rows, int columns, Row row) {
        for (int n = 0; n <= rows; n++) {
            for (int i = 0; i < columns; i++) {
                int k = n;
                int what = i;
                ask(name + "(" + k + ", " + what + ")", y -> row.of(y, k, what));
            }
        }
    }

    private void askOfLaws(MerchantYard yard, int now) {
        int[] days = {0, Math.max(0, now - 1), now, now + 1, 3999};
        for (int day : days) {
            for (int n = 0; n < 8; n++) {
                int k = n;
                ask("force(" + k + ", " + day + ")", y -> y.force(k, day));
                ask("elder(" + (day + k) + ")", y -> y.elder(day + k));
                ask("isShut(" + k + ", " + day + ", " + now + ")", y -> y.isShut(k, day, now));
                ask("isShut(" + k + ", 20, " + day + ")", y -> y.isShut(k, 20, day));
            }
        }
        ask("told(0)", y -> y.told(0));
        ask("told(1)", y -> y.told(1));
    }

    private void askOfMeasures(int now) {
        for (int n = 0; n < 8; n++) {
            int kind = n;
            for (int i = 0; i < 6; i++) {
                int what = i;
                ask("span(" + kind + ", " + now + ", " + what + ")", y -> y.span(kind, now, what));
                ask("span(" + kind + ", 0, " + what + ")", y -> y.span(kind, 0, what));
                ask("theirs(" + kind + ", 1000, " + now + ", " + what + ")", y -> y.theirs(kind, 1000, now, what));
            }
        }
    }

    private void askOfSea(MerchantYard yard, int now) {
        for (int i = 0; i < 9 * 8; i++) {
            int town = i / 8;
            int kind = i % 8;
            ask("low price(" + town + ", " + kind + ")", y -> y.price(town, kind, now, 0));
            ask("high price(" + town + ", " + kind + ")", y -> y.price(town, kind, now, 1));
        }
        for (int n = -1; n < 5; n++) {
            int k = n;
            ask("planned(" + k + ", 0)", y -> y.planned(k, 0));
            ask("planned(" + k + ", 1)", y -> y.planned(k, 1));
        }
        ask("high()", MerchantYard::high);
    }

    // ---- calls that act

    private void actOnLaws(MerchantYard yard, int now) {
        newRound();
        for (int n = 0; n < 10; n++) {
            int k = n;
            act("verdict of lot " + k, y -> y.verdict(y.lot(k, 2), 1, k, 1, 10, 0, 0));
            act("told(0)", y -> y.told(0));
            act("told(1)", y -> y.told(1));
        }
        act("what the tape says", y -> y.law(0, now));
        for (int k = 0; k < Math.min(30, yard.count(3)); k++) {
            int law = k;
            act("read(" + law + ")", y -> bit(y.read(law)));
            act("force(2)", y -> y.force(2, now));
        }
        for (int k = 0; k < Math.min(20, yard.count(8)); k++) {
            int port = k;
            act("readShut(" + port + ")", y -> bit(y.readShut(port)));
        }
        act("feed()", y -> y.feed(1, 2, 3, 4, 5));
        act("another port shut", y -> y.shut(0, 0, 0));
        newRound();
        act("the tape with a blank", y -> y.feed(0x20202020, 0x20202020, 0x20202020, 0x20202020, 0x20202020));
        act("is a law or none", y -> y.law(0, now));
        act("and tells", y -> y.verdict(0, 1, 0, 1, 10, 0, 0));
    }

    private void actOnBargains(MerchantYard yard) {
        newRound();
        int bargains = (int) Math.min(20, yard.count(4));
        for (int n = 0; n < bargains; n++) {
            int k = n;
            act("surety of " + k, y -> y.surety(k, 6));
            act("call(" + k + ")", y -> y.call(k));
            act("claim(" + k + ", 0)", y -> y.claim(k, 0, 1));
            act("claim(" + k + ", 1)", y -> y.claim(k, 1, 1));
            act("pay(" + k + ")", y -> y.pay(k, 1));
        }
        act("another deal", y -> y.deal(0, 1, 0, 1, 1, 1, 0));
        act("another lot", y -> y.bring(0, 0, 1));
        for (int n = 0; n < Math.min(40, yard.count(1)); n++) {
            int man = n;
            act("leave(" + man + ")", y -> man % 3 == 1 ? bit(y.leave(man)) : 0);
            act("die(" + man + ")", y -> y.die(man));
            act("chest", y -> y.chest(y.men(man, 0)));
            act("coins", y -> y.count(13));
        }
        act("another man", y -> y.man(0, false, 1));
    }

    private void actOnMeasures(MerchantYard yard) {
        newRound();
        for (int n = 0; n < Math.min(100, yard.count(5)); n++) {
            int k = n;
            act("takeBack(" + k + ")", y -> bit(y.takeBack(k)));
        }
        act("another weighing", y -> y.weigh(0, 9, 9));
    }

    private void actAtSea(MerchantYard yard, int now) {
        newRound();
        for (int n = 0; n < 7; n++) {
            int man = n;
            for (int i = 0; i < Math.min(20, yard.count(6)); i++) {
                int ship = i;
                act("sail(" + man + ", " + ship + ")", y -> y.sail(man, ship));
            }
            act("broke(" + man + ")", y -> y.broke(man));
        }
        newRound();
        act("the plan", y -> y.plan(0));
        act("its ships", y -> y.planned(-1, 1));
        act("its highs", MerchantYard::high);
        act("another ship", y -> y.ship(0, now, 1, 1));
        act("other news", y -> y.news(8, 0, 5, 9));
        act("the plan then", y -> y.plan(0));
    }

    private void actOnTheRest() {
        newRound();
        for (int n = 1; n <= 8; n++) {
            int hands = n;
            act("breakers(" + hands + ")", y -> y.breakers(hands));
            act("holds(1)", y -> y.holds(1));
        }
        act("another hand", y -> bit(y.hand((int) y.count(10), 1, 2, 3)));
        act("hands", y -> y.count(10));
        newRound();
        act("join", y -> y.join(1000, 1000));
        for (int n = -2; n < 10; n++) {
            int k = n;
            act("joined(" + k + ")", y -> y.joined(k));
        }
        act("another of ours", y -> y.entry(0, 0, 0, 0));
        act("another of home's", y -> y.entry(1, 0, 0, 0));
        act("all go", MerchantYard::clear);
    }
}
