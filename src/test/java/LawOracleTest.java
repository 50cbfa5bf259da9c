import java.util.ArrayDeque;
import java.util.ArrayList;
import java.util.Deque;
import java.util.HashMap;
import java.util.List;
import java.util.Map;
import java.util.Random;

/** Promises 11, 13 and 15 on random texts, against a reader and a judge that are built in another way. */
public final class LawOracleTest {
    private static final Answers A = new Answers("LawOracleTest");
    private static final String[] FACTS = {"seller", "buyer", "kind", "amount", "price", "credit", "hour", "day",
        "winter", "elder", "owes", "late", "shut", "here"};
    private static final String[] PIECES = {"let", "bar", "fine", "if", "or", "and", "not", "[", "]", "(", ")", ";",
        "+", "-", "*", "<", "<=", "=", ">=", ">", "1", "23", "45678", "123456", "seller", "kind", "here", "late",
        "foo", " ", "  ", "\t", "A", "\u00ff", "\u0000", "7", "price", "hour"};

    public static void main(String[] args) {
        Random random = new Random(20260101);
        for (int run = 0; run < 6000; run++) {
            String text = randomLaw(random);
            ask(text, random);
            ask(broken(text, random), random);
        }
        A.end();
    }

    // ---- asking the class

    private static void ask(String text, Random random) {
        String law = text.length() > 400 ? text.substring(0, 400) : text;
        MerchantYard y = new MerchantYard();
        Map<String, Long> facts = scene(y, random);
        int fault = faultOf(law);
        int got = Answers.law(y, 0, 0, law);
        A.due("law of '" + law + "'", got, fault == 0 ? 0 : -2 - fault);
        if (fault != 0 || got != 0) {
            return;
        }
        String[] clauses = law.split(";");
        A.due("clauses of '" + law + "'", y.laws(0, 1), clauses.length);
        int amount = 1 + random.nextInt(3);
        int price = random.nextInt(3);
        int credit = random.nextInt(3);
        int hour = random.nextInt(3);
        facts.put("amount", (long) amount);
        facts.put("price", (long) price);
        facts.put("credit", (long) credit);
        facts.put("hour", (long) hour);
        int clause = 0;
        while (clause < clauses.length && !new Judge(clauses[clause], facts).isTrue()) {
            clause++;
        }
        int want = clause < clauses.length ? verdictOf(clauses[clause]) : 0;
        A.due("verdict by '" + law + "' of " + facts, y.verdict(0, 1, 0, amount, price, credit, hour), want);
        A.due("clause", y.told(1), clause < clauses.length ? clause : -1);
    }

    private static int verdictOf(String clause) {
        String words = clause.strip();
        if (words.startsWith("let")) {
            return 0;
        }
        return words.startsWith("bar") ? 1 : 10 + Integer.parseInt(words.substring(4, words.indexOf("if")).strip());
    }

    private static Map<String, Long> scene(MerchantYard y, Random random) {
        Map<String, Long> facts = new HashMap<>();
        int seller = random.nextInt(9);
        int buyer = random.nextInt(9);
        boolean first = random.nextInt(3) == 0;
        boolean second = random.nextInt(3) == 0;
        int kind = random.nextInt(8);
        int here = random.nextInt(3);
        y.man(seller, first, 0);
        y.man(buyer, second, 0);
        y.bring(0, kind, 100);
        y.news(8, kind, here, 9);
        int owed = random.nextInt(3);
        y.deal(0, 1, 0, 1, owed, 1, 0);
        int day = random.nextInt(4);
        boolean closed = random.nextBoolean();
        y.shut(2, 0, closed ? 3 : 0);
        y.readShut(0);
        y.clock(day);
        boolean shut = (seller == 2 || buyer == 2) && (closed || day == 0);
        facts.put("seller", (long) seller);
        facts.put("buyer", (long) buyer);
        facts.put("kind", (long) kind);
        facts.put("day", (long) day);
        facts.put("winter", first || second ? 1L : 0L);
        facts.put("elder", seller == 0 || buyer == 0 ? 1L : 0L);
        facts.put("owes", (long) owed);
        facts.put("late", day > 1 ? (long) owed : 0L);
        facts.put("shut", shut ? 1L : 0L);
        facts.put("here", (long) here);
        return facts;
    }

    // ---- random texts

    static String randomLaw(Random random) {
        StringBuilder text = new StringBuilder();
        int clauses = random.nextInt(20) == 0 ? 11 : 1 + random.nextInt(3);
        for (int i = 0; i < clauses; i++) {
            String verb = new String[] {"let", "bar", "fine " + random.nextInt(100)}[random.nextInt(3)];
            text.append(i == 0 ? "" : ";").append(blank(random)).append(verb).append(" if ");
            text.append(randomTest(random, random.nextInt(5)));
        }
        return text.toString();
    }

    private static String randomTest(Random random, int depth) {
        StringBuilder text = new StringBuilder(randomFact(random, depth));
        int more = random.nextInt(8) == 0 ? random.nextInt(15) : random.nextInt(3);
        for (int i = 0; i < more; i++) {
            text.append(random.nextBoolean() ? " and " : " or ").append(randomFact(random, depth));
        }
        return text.toString();
    }

    private static String randomFact(Random random, int depth) {
        int pick = random.nextInt(6);
        if (depth > 0 && pick == 0) {
            return "not " + blank(random) + randomFact(random, depth - 1);
        }
        if (depth > 0 && pick == 1) {
            return "[" + randomTest(random, depth - 1) + blank(random) + "]";
        }
        String sign = new String[] {"<", "<=", "=", ">=", ">"}[random.nextInt(5)];
        return randomSum(random, depth) + blank(random) + sign + blank(random) + randomSum(random, depth);
    }

    private static String randomSum(Random random, int depth) {
        StringBuilder text = new StringBuilder(randomValue(random, depth));
        int more = random.nextInt(12) == 0 ? random.nextInt(30) : random.nextInt(3);
        for (int i = 0; i < more; i++) {
            text.append(blank(random)).append("+-*".charAt(random.nextInt(3))).append(blank(random));
            text.append(randomValue(random, depth));
        }
        return text.toString();
    }

    private static String randomValue(Random random, int depth) {
        int pick = random.nextInt(8);
        if (depth > 0 && pick == 0) {
            return "(" + randomSum(random, depth - 1) + ")";
        }
        if (pick < 5) {
            return FACTS[random.nextInt(FACTS.length)];
        }
        return String.valueOf(random.nextInt(pick == 5 ? 100000 : 4));
    }

    private static String blank(Random random) {
        return random.nextInt(3) == 0 ? "" : " ".repeat(random.nextInt(3));
    }

    static String broken(String text, Random random) {
        String one = text;
        for (int i = random.nextInt(2); i >= 0; i--) {
            int from = random.nextInt(one.length() + 1);
            int to = Math.min(one.length(), from + random.nextInt(6));
            String piece = PIECES[random.nextInt(PIECES.length)];
            int many = random.nextInt(6) == 0 ? 12 : 1;
            one = one.substring(0, from) + piece.repeat(many) + one.substring(random.nextBoolean() ? from : to);
        }
        return one;
    }

    // ---- the first fault: what may stand next, and a pile of what is open

    private static int faultOf(String text) {
        List<String> tokens = new ArrayList<>();
        List<Integer> places = new ArrayList<>();
        cut(text, tokens, places);
        Deque<String> open = new ArrayDeque<>();
        String awaits = "verb";
        int counted = 0;
        int clauses = 0;
        for (int i = 0; i < tokens.size(); i++) {
            String t = tokens.get(i);
            int place = 1 + 8 * places.get(i);
            boolean number = t.matches("[0-9]+");
            boolean value = number || t.equals("(") || List.of(FACTS).contains(t);
            switch (awaits) {
                case "verb":
                    if (!List.of("let", "bar", "fine").contains(t)) {
                        return place;
                    }
                    clauses++;
                    if (clauses > 10) {
                        return place + 4;
                    }
                    awaits = t.equals("fine") ? "number" : "if";
                    break;
                case "number":
                    if (!number) {
                        return place;
                    }
                    if (t.length() > 5) {
                        return place + 1;
                    }
                    awaits = "if";
                    break;
                case "if":
                    if (!t.equals("if")) {
                        return place;
                    }
                    awaits = "fact";
                    break;
                case "fact":
                case "value":
                    boolean inFact = awaits.equals("fact");
                    if (inFact && (t.equals("not") || t.equals("["))) {
                        if (depth(open) == 10) {
                            return place + 2;
                        }
                        open.push(t);
                        break;
                    }
                    if (!value) {
                        return place;
                    }
                    if (number && t.length() > 5) {
                        return place + 1;
                    }
                    if (t.equals("(") && depth(open) == 10) {
                        return place + 2;
                    }
                    counted++;
                    if (counted > 80) {
                        return place + 3;
                    }
                    if (inFact) {
                        open.push("left");
                    }
                    if (t.equals("(")) {
                        open.push("(");
                        awaits = "value";
                    } else {
                        awaits = "join";
                    }
                    break;
                default:
                    if (awaits.equals("join") && List.of("+", "-", "*").contains(t)) {
                        awaits = "value";
                    } else if (open.peek().equals("(")) {
                        if (!t.equals(")")) {
                            return place;
                        }
                        open.pop();
                    } else if (open.peek().equals("left")) {
                        if (!List.of("<", "<=", "=", ">=", ">").contains(t)) {
                            return place;
                        }
                        counted++;
                        if (counted > 80) {
                            return place + 3;
                        }
                        open.pop();
                        open.push("right");
                        awaits = "value";
                    } else {
                        closeFact(open);
                        awaits = behindFact(t, open);
                        if (awaits == null) {
                            return place;
                        }
                        if (awaits.equals("end")) {
                            return 0;
                        }
                    }
            }
        }
        return 0;
    }

    private static String behindFact(String t, Deque<String> open) {
        if (t.equals("and") || t.equals("or")) {
            return "fact";
        }
        if (!open.isEmpty()) {
            if (!t.equals("]")) {
                return null;
            }
            open.pop();
            open.push("right");
            return "join-behind-test";
        }
        return t.equals(";") ? "verb" : t.equals("") ? "end" : null;
    }

    /** A fact that is whole ends what was only waiting for it. */
    private static void closeFact(Deque<String> open) {
        if (!open.isEmpty() && open.peek().equals("right")) {
            open.pop();
        }
        while (!open.isEmpty() && open.peek().equals("not")) {
            open.pop();
        }
    }

    private static int depth(Deque<String> open) {
        int sum = 0;
        for (String one : open) {
            sum += one.equals("[") || one.equals("(") || one.equals("not") ? 1 : 0;
        }
        return sum;
    }

    private static void cut(String text, List<String> tokens, List<Integer> places) {
        java.util.regex.Matcher m = java.util.regex.Pattern.compile("[a-z]+|[0-9]+|<=|>=|[^ ]", java.util.regex.Pattern.DOTALL)
                .matcher(text);
        while (m.find()) {
            tokens.add(m.group());
            places.add(m.start());
        }
        tokens.add("");
        places.add(text.length());
    }

    // ---- a clause without a fault, judged straight from its text

    private static final class Judge {
        private final List<String> tokens = new ArrayList<>();
        private final Map<String, Long> facts;
        private int at;

        Judge(String clause, Map<String, Long> facts) {
            cut(clause, tokens, new ArrayList<>());
            this.facts = facts;
        }

        boolean isTrue() {
            at = tokens.indexOf("if") + 1;
            return test();
        }

        private boolean test() {
            boolean any = part();
            while (tokens.get(at).equals("or")) {
                at++;
                any |= part();
            }
            return any;
        }

        private boolean part() {
            boolean all = fact();
            while (tokens.get(at).equals("and")) {
                at++;
                all &= fact();
            }
            return all;
        }

        private boolean fact() {
            if (tokens.get(at).equals("not")) {
                at++;
                return !fact();
            }
            if (tokens.get(at).equals("[")) {
                at++;
                boolean inner = test();
                at++;
                return inner;
            }
            long left = sum();
            String sign = tokens.get(at++);
            int order = Long.compare(left, sum());
            return order < 0 && sign.startsWith("<") || order > 0 && sign.startsWith(">") || order == 0 && sign.endsWith("=");
        }

        private long sum() {
            long sum = term();
            while (tokens.get(at).equals("+") || tokens.get(at).equals("-")) {
                boolean plus = tokens.get(at++).equals("+");
                sum = plus ? sum + term() : sum - term();
            }
            return sum;
        }

        private long term() {
            long term = value();
            while (tokens.get(at).equals("*")) {
                at++;
                term *= value();
            }
            return term;
        }

        private long value() {
            String t = tokens.get(at++);
            if (t.equals("(")) {
                long sum = sum();
                at++;
                return sum;
            }
            return Character.isDigit(t.charAt(0)) ? Long.parseLong(t) : facts.get(t);
        }
    }
}
