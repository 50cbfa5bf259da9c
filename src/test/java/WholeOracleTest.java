import java.lang.reflect.Method;
import java.lang.reflect.Modifier;
import java.nio.charset.StandardCharsets;
import java.util.ArrayList;
import java.util.Arrays;
import java.util.HashMap;
import java.util.List;
import java.util.Map;
import java.util.Random;

/** Promises 1 to 49 together: random runs of all calls, each answer against SecondYard's. */
public final class WholeOracleTest {
    private static final Answers A = new Answers("WholeOracleTest");
    private static final int RUNS = 900;
    private static final int CALLS = 512;

    /**
     * Groups of calls, each call with what its arguments are: m a man, v one of the first two, l a lot, b a bargain, L a law, P a port shut, g a
     * weighing, s a ship, t a town, T a town or 8, C a chest, k a kind, d a day, p coins, a an amount, u a price for one
     * measure, c credit, h an hour, r a rank, i 0 to 2, n 0 to 9, w 0 to 14, j -3 to 10, f yes or no, o towns of an order,
     * e bytes, x what end() leaves, y and z tolerances.
     */
    private static final String[] GROUPS = {
        "man Tfp,man Tfp,leave m,die m,men mw,men mw,count w,lot lw,bring mka,bring mka,chest C",
        "deal ?,deal ?,deal ?,deal ?,bargain bw,bargain bw,surety bm,surety bm,surety bm,sureties biw,pay bp,call b,call b,"
            + "claim bip,claim bip,men mw,chest C",
        "verdict ?,verdict ?,verdict ?,deal ?,told i,text !,text !,read L,laws Li,force rd,law rd,feed eeeee,end x",
        "shut tdd,readShut P,isShut tdd,ship tdda,sail ms,sail ms,broke m",
        "ship tdna,news Tkuu,news Tkuu,price Tkdi,plan m,plan m,planned ji,planned ji,high ,bring mka,shut tdd,readShut P",
        "weigh kaa,weigh kaa,weigh kaa,takeBack g,span kdn,span kdn,theirs kpdi",
        "order nod,elder d,elder d,man Tfp,leave m",
        "hand nuun,hand nuun,hand nuun,breakers n,breakers n,holds w,holds w,holds p",
        "entry idvz,entry idvz,entry idvz,entry idvz,entry idvz,entry idvz,join zy,joined j,joined j,joined j,clear ",
    };
    private static final List<String> RARE = List.of("die", "leave", "clear", "takeBack");
    private static final int[] EDGES = {Integer.MIN_VALUE, -2, -1, 0, 1, 2, 7, 8, 9, 10, 14, 23, 24, 39, 40, 99, 100, 200, 400,
        401, 720, 721, 1000, 1001, 3999, 4000, 9999, 10000, 100000, 100001, 1000000, 1000001, Integer.MAX_VALUE};

    private final MerchantYard first = new MerchantYard();
    private final SecondYard second = new SecondYard();
    private final Map<String, Method> ours = callsOf(MerchantYard.class);
    private final Map<String, Method> theirs = callsOf(SecondYard.class);
    private final Random random;
    private final int seed;
    private final int strange;
    private final int widest;
    private int calls;
    private boolean agree = true;

    private WholeOracleTest(int seed) {
        this.seed = seed;
        random = new Random(seed);
        strange = random.nextInt(3) * 3;
        widest = 3 + random.nextInt(60);
    }

    public static void main(String[] args) throws Exception {
        for (int seed = 0; seed < RUNS; seed++) {
            new WholeOracleTest(seed).run();
        }
        A.end();
    }

    private static Map<String, Method> callsOf(Class<?> type) {
        Map<String, Method> found = new HashMap<>();
        for (Method one : type.getDeclaredMethods()) {
            if (!Modifier.isPrivate(one.getModifiers()) && !Modifier.isStatic(one.getModifiers())) {
                found.put(one.getName(), one);
            }
        }
        return found;
    }

    private void run() throws Exception {
        List<String> some = new ArrayList<>(Arrays.asList(GROUPS[0].split(",")));
        for (int i = 1 + random.nextInt(3); i > 0; i--) {
            String[] group = GROUPS[1 + random.nextInt(GROUPS.length - 1)].split(",");
            for (int times = 1 + random.nextInt(3); times > 0; times--) {
                some.addAll(Arrays.asList(group));
            }
        }
        int restless = 5 + random.nextInt(60);
        for (int i = random.nextInt(6); i >= 0; i--) {
            ask("man", "Tfp");
            ask("bring", "mka");
        }
        while (calls < CALLS && agree) {
            String[] call = some.get(random.nextInt(some.size())).split(" ");
            if (random.nextInt(restless) == 0) {
                ask("clock", "d");
            } else if (call[0].equals("text")) {
                tellLaw();
            } else if (!RARE.contains(call[0]) || random.nextInt(5) == 0) {
                ask(call[0], call.length < 2 ? "" : call[1]);
            }
        }
    }

    private void tellLaw() throws Exception {
        String text = LawOracleTest.randomLaw(random);
        text = random.nextInt(4) == 0 ? LawOracleTest.broken(text, random) : text;
        byte[] bytes = Arrays.copyOf(text.getBytes(StandardCharsets.ISO_8859_1), Math.min(400, text.length()));
        if (calls + bytes.length / 20 + 5 > CALLS) {
            calls = CALLS;
            return;
        }
        same("end", 0);
        for (int at = 0; at < bytes.length; at += 20) {
            byte[] twenty = Arrays.copyOfRange(bytes, at, at + 20);
            java.nio.ByteBuffer b = java.nio.ByteBuffer.wrap(twenty);
            same("feed", b.getInt(), b.getInt(), b.getInt(), b.getInt(), b.getInt());
        }
        same("end", bytes.length);
        int law = (int) same("law", random.nextInt(3), day());
        if (law >= 0 && random.nextBoolean()) {
            same("read", law);
        }
    }

    private void ask(String name, String kinds) throws Exception {
        if (kinds.equals("?")) {
            int lot = below(second.count(2));
            int seller = random.nextInt(12) == 0 ? below(second.count(1)) : second.lot(lot, 2);
            int amount = random.nextInt(4) == 0 ? second.lot(lot, 1) : 1 + random.nextInt(4);
            same(name, seller, below(second.count(1)), lot, amount, value('p'), value('c'), value('h'));
            return;
        }
        Object[] values = new Object[kinds.length()];
        for (int i = 0; i < values.length; i++) {
            char kind = kinds.charAt(i);
            if (kind == 'f') {
                values[i] = random.nextBoolean();
            } else if (kind == 'o') {
                values[i] = random.nextInt(5) == 0 ? random.nextLong() : 0x5316_0427L >>> 4 * random.nextInt(6);
            } else {
                values[i] = value(kind);
            }
        }
        same(name, values);
    }

    private int below(long n) {
        return random.nextInt((int) n + 1) - random.nextInt(20) / 19;
    }

    private int day() {
        return (int) second.count(0) + random.nextInt(14) - random.nextInt(8);
    }

    private int value(char kind) {
        if (random.nextInt(100) < strange) {
            return EDGES[random.nextInt(EDGES.length)];
        }
        String counted = "0mlLb.s.P";
        if (kind != '.' && counted.indexOf(kind) > 0) {
            int[] what = {0, 1, 2, 3, 4, 0, 6, 0, 8};
            return below(second.count(what[counted.indexOf(kind)]));
        }
        switch (kind) {
            case 'g':
                return below(second.count(5));
            case 'v':
                return random.nextInt(2);
            case 't':
                return random.nextInt(random.nextInt(9) == 0 ? 8 : 3);
            case 'T':
                return random.nextInt(3) == 0 ? 8 : random.nextInt(3);
            case 'C':
                return random.nextInt(10);
            case 'k':
                return random.nextInt(random.nextInt(9) == 0 ? 8 : 3);
            case 'd':
                return day();
            case 'p':
                return random.nextInt(random.nextInt(4) == 0 ? 1000 : widest);
            case 'a':
                return 1 + random.nextInt(random.nextInt(9) == 0 ? 100000 : widest);
            case 'u':
                return random.nextInt(6);
            case 'c':
                return random.nextInt(6);
            case 'h':
                return random.nextInt(24);
            case 'r':
                return random.nextInt(3);
            case 'i':
                return random.nextInt(8) == 0 ? 2 : random.nextInt(2);
            case 'n':
                return random.nextInt(10);
            case 'j':
                return random.nextInt(14) - 3;
            case 'w':
                return random.nextInt(15);
            case 'x':
                return (int) second.count(9) - random.nextInt(21) + random.nextInt(2);
            case 'y':
                return random.nextInt(20);
            case 'z':
                return random.nextInt(12);
            default:
                return random.nextInt();
        }
    }

    private long same(String name, Object... values) throws Exception {
        if (calls >= CALLS || !agree) {
            return -1;
        }
        calls++;
        long got = number(ours.get(name).invoke(first, values));
        Method other = theirs.get(name);
        long want = number(other.invoke(second, values));
        A.due("run " + seed + ", call " + calls + ", " + name + Arrays.toString(values), got, want);
        agree = got == want;
        return got;
    }

    private static long number(Object answer) {
        return answer instanceof Boolean ? ((Boolean) answer ? 1 : 0) : ((Number) answer).longValue();
    }
}
