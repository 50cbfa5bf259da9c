import java.nio.charset.StandardCharsets;

/** What the project's tests share: it counts the answers that are not as due, and feeds texts to the tape. */
final class Answers {
    private final String name;
    private int asked;
    private int wrong;

    Answers(String name) {
        this.name = name;
    }

    void due(String what, long got, long want) {
        asked++;
        if (got != want) {
            wrong++;
            if (wrong <= 20) {
                System.out.println(name + ": " + what + " answered " + got + ", due is " + want);
            }
        }
    }

    void yes(String what, boolean got) {
        due(what, got ? 1 : 0, 1);
    }

    void no(String what, boolean got) {
        due(what, got ? 1 : 0, 0);
    }

    void end() {
        System.out.println(name + ": " + asked + " answers, " + wrong + " not as due");
        if (wrong != 0 || asked == 0) {
            System.exit(1);
        }
    }

    /** Puts the text on the empty tape: how many calls that took. */
    static int write(MerchantYard yard, String text) {
        byte[] bytes = text.getBytes(StandardCharsets.ISO_8859_1);
        int calls = 2;
        yard.end(0);
        for (int at = 0; at < bytes.length; at += 20) {
            yard.feed(four(bytes, at), four(bytes, at + 4), four(bytes, at + 8), four(bytes, at + 12), four(bytes, at + 16));
            calls++;
        }
        yard.end(bytes.length);
        return calls;
    }

    static int law(MerchantYard yard, int rank, int day, String text) {
        write(yard, text);
        return yard.law(rank, day);
    }

    /** What law() answers to a text with this FAULT. */
    static int fault(int place, int why) {
        return -2 - (1 + 8 * place + why);
    }

    static String times(String text, int n) {
        return text.repeat(n);
    }

    private static int four(byte[] bytes, int at) {
        int sum = 0;
        for (int i = at; i < at + 4; i++) {
            sum = sum << 8 | (i < bytes.length ? bytes[i] & 255 : 0);
        }
        return sum;
    }
}
