import java.util.ArrayList;
import java.util.List;
import java.util.Map;

/** A law's text read a second time, sign by sign: the FAULT (0: none) and the clauses, each as a tree of tests. */
final class SecondLaw {
    interface Test {
        boolean holds(Map<String, Long> facts);
    }

    interface Sum {
        long of(Map<String, Long> facts);
    }

    static final class Clause {
        final int verdict;
        final Test test;

        Clause(int verdict, Test test) {
            this.verdict = verdict;
            this.test = test;
        }
    }

    private static final class Fault extends RuntimeException {
        final int number;

        Fault(int place, int why) {
            super("fault", null, false, false);
            number = 1 + 8 * place + why;
        }
    }

    private static final List<String> FACTS = List.of("seller", "buyer", "kind", "amount", "price", "credit", "hour", "day",
            "winter", "elder", "owes", "late", "shut", "here");

    int fault;
    final List<Clause> clauses = new ArrayList<>();
    private final String text;
    private int at;
    private int values;
    private int open;

    SecondLaw(String text) {
        this.text = text;
        try {
            readAll();
        } catch (Fault found) {
            fault = found.number;
        }
    }

    private void readAll() {
        do {
            clauses.add(clause());
        } while (takes(";"));
        if (at < text.length()) {
            throw new Fault(at, 0);
        }
    }

    /** Behind blanks: the sign at hand, a whole word, or "" at the end. */
    private String next() {
        while (at < text.length() && text.charAt(at) == ' ') {
            at++;
        }
        int to = at;
        while (to < text.length() && text.charAt(to) >= 'a' && text.charAt(to) <= 'z') {
            to++;
        }
        if (to == at && at < text.length()) {
            to++;
            if ("<>".indexOf(text.charAt(at)) >= 0 && to < text.length() && text.charAt(to) == '=') {
                to++;
            }
        }
        return text.substring(at, to);
    }

    private boolean takes(String what) {
        if (next().equals(what)) {
            at += what.length();
            return true;
        }
        return false;
    }

    private void must(String what) {
        if (!takes(what)) {
            throw new Fault(at, 0);
        }
    }

    private Clause clause() {
        String verb = next();
        if (!verb.equals("let") && !verb.equals("bar") && !verb.equals("fine")) {
            throw new Fault(at, 0);
        }
        if (clauses.size() == 10) {
            throw new Fault(at, 4);
        }
        must(verb);
        int verdict = verb.equals("let") ? 0 : 1;
        if (verb.equals("fine")) {
            next();
            if (!digitAt(at)) {
                throw new Fault(at, 0);
            }
            verdict = 10 + Integer.parseInt(digits());
        }
        must("if");
        return new Clause(verdict, test());
    }

    private boolean digitAt(int place) {
        return place < text.length() && text.charAt(place) >= '0' && text.charAt(place) <= '9';
    }

    private String digits() {
        int to = at;
        while (digitAt(to)) {
            to++;
        }
        if (to - at > 5) {
            throw new Fault(at, 1);
        }
        String number = text.substring(at, to);
        at = to;
        return number;
    }

    private Test test() {
        Test left = part();
        while (takes("or")) {
            Test one = left;
            Test other = part();
            left = f -> one.holds(f) || other.holds(f);
        }
        return left;
    }

    private Test part() {
        Test left = fact();
        while (takes("and")) {
            Test one = left;
            Test other = fact();
            left = f -> one.holds(f) && other.holds(f);
        }
        return left;
    }

    private void deeper() {
        if (open == 10) {
            throw new Fault(at, 2);
        }
        open++;
    }

    private void oneMore() {
        if (values == 80) {
            throw new Fault(at, 3);
        }
        values++;
    }

    private Test fact() {
        String first = next();
        if (first.equals("not")) {
            deeper();
            must("not");
            Test inner = fact();
            open--;
            return f -> !inner.holds(f);
        }
        if (first.equals("[")) {
            deeper();
            must("[");
            Test inner = test();
            must("]");
            open--;
            return inner;
        }
        Sum left = sum();
        String sign = next();
        if (!List.of("<", "<=", "=", ">=", ">").contains(sign)) {
            throw new Fault(at, 0);
        }
        oneMore();
        must(sign);
        Sum right = sum();
        return f -> compares(sign, Long.compare(left.of(f), right.of(f)));
    }

    private static boolean compares(String sign, int order) {
        return order == 0 ? sign.contains("=") : sign.contains(order < 0 ? "<" : ">");
    }

    private Sum sum() {
        Sum left = term();
        for (String sign = next(); sign.equals("+") || sign.equals("-"); sign = next()) {
            must(sign);
            Sum one = left;
            Sum other = term();
            left = sign.equals("+") ? f -> one.of(f) + other.of(f) : f -> one.of(f) - other.of(f);
        }
        return left;
    }

    private Sum term() {
        Sum left = value();
        while (takes("*")) {
            Sum one = left;
            Sum other = value();
            left = f -> one.of(f) * other.of(f);
        }
        return left;
    }

    private Sum value() {
        String first = next();
        if (first.equals("(")) {
            deeper();
            oneMore();
            must("(");
            Sum inner = sum();
            must(")");
            open--;
            return inner;
        }
        if (digitAt(at)) {
            int from = at;
            long number = Long.parseLong(digits());
            int behind = at;
            at = from;
            oneMore();
            at = behind;
            return f -> number;
        }
        if (!FACTS.contains(first)) {
            throw new Fault(at, 0);
        }
        oneMore();
        must(first);
        return f -> f.get(first);
    }
}
