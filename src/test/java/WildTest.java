import java.lang.reflect.Method;
import java.lang.reflect.Modifier;
import java.util.ArrayList;
import java.util.Comparator;
import java.util.List;
import java.util.Random;

/** Every call with all kinds of arguments: none throws, coins stay, and the same calls give the same answers. */
public final class WildTest {
    private static final Answers A = new Answers("WildTest");
    private static final int[] EDGES = {Integer.MIN_VALUE, -1000, -3, -2, -1, 0, 1, 2, 3, 4, 5, 7, 8, 9, 10, 11, 13, 14, 15,
        19, 20, 23, 24, 29, 30, 39, 40, 90, 99, 100, 199, 200, 299, 300, 400, 401, 720, 721, 1000, 1001, 3999, 4000, 9999,
        10000, 100000, 100001, 1000000, 1000001, 2000000000, Integer.MAX_VALUE};
    private static final String[] TEXTS = {"let if 1=1", "bar if amount > 5 or late > 0", "fine 77 if price * 2 >= here + 3",
        "bar if not [elder = 1 and shut = 0]; fine 3 if winter = 1", "let if 5", "x", "fine 9 if owes < (credit - hour) * day"};

    public static void main(String[] args) throws Exception {
        List<Method> calls = new ArrayList<>();
        for (Method one : MerchantYard.class.getDeclaredMethods()) {
            if (Modifier.isPublic(one.getModifiers())) {
                calls.add(one);
            }
        }
        calls.sort(Comparator.comparing(Method::getName));
        A.due("public methods", calls.size(), 48);
        for (int run = 0; run < 1500; run++) {
            long first = run(calls, run);
            if (run % 10 == 0) {
                A.due("the same run again", run(calls, run), first);
            }
        }
        A.end();
    }

    private static long run(List<Method> calls, int seed) throws Exception {
        Random random = new Random(seed);
        int tame = 20 + random.nextInt(80);
        MerchantYard y = new MerchantYard();
        long hash = 0;
        long coins = 0;
        int day = 0;
        int n = 0;
        while (n < 500) {
            Method call = calls.get(random.nextInt(calls.size()));
            if (call.getName().equals("feed") && random.nextInt(3) > 0) {
                n += Answers.write(y, TEXTS[random.nextInt(TEXTS.length)]);
                continue;
            }
            n++;
            if (call.getName().equals("clock")) {
                day += random.nextInt(20);
                y.clock(day);
                continue;
            }
            Object[] values = values(call, random, tame);
            Object got = call.invoke(y, values);
            long answer = got instanceof Boolean ? (((Boolean) got) ? 1 : 0) : ((Number) got).longValue();
            if (call.getName().equals("man") && answer >= 0) {
                coins += (Integer) values[2];
            }
            hash = hash * 31 + answer;
        }
        A.due("coins of run " + seed, y.count(13), coins);
        return hash;
    }

    private static Object[] values(Method call, Random random, int tame) {
        Class<?>[] types = call.getParameterTypes();
        Object[] values = new Object[types.length];
        for (int i = 0; i < types.length; i++) {
            int value = random.nextInt(100) < tame ? random.nextInt(8) : EDGES[random.nextInt(EDGES.length)];
            if (types[i] == boolean.class) {
                values[i] = random.nextBoolean();
            } else if (types[i] == long.class) {
                values[i] = random.nextInt(3) == 0 ? random.nextLong() : 0x76543210L >>> 4 * random.nextInt(5);
            } else {
                values[i] = value;
            }
        }
        return values;
    }
}
