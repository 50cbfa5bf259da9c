import java.lang.reflect.Method;
import java.lang.reflect.Modifier;
import java.nio.file.Files;
import java.nio.file.Path;
import java.util.ArrayList;
import java.util.List;
import java.util.Set;
import java.util.TreeSet;
import java.util.regex.Matcher;
import java.util.regex.Pattern;
import java.util.stream.Stream;

/** README.md's words hold: its example runs as told, it names each call and each test. The argument is the project's folder. */
public final class ReadmeTest {
    private static final Answers A = new Answers("ReadmeTest");

    public static void main(String[] args) throws Exception {
        Path root = Path.of(args.length > 0 ? args[0] : ".");
        String readme = Files.readString(root.resolve("README.md"));
        example();
        sameLines(readme, Files.readString(root.resolve("src/test/java/ReadmeTest.java")));
        namesCalls(readme);
        namesTests(readme, root.resolve("src/test/java"));
        A.yes(".ci/run can be run", Files.isExecutable(root.resolve(".ci/run")));
        A.end();
    }

    private static void example() {
        // README begins
        MerchantYard yard = new MerchantYard();
        int seller = yard.man(0, false, 1000);                    // of town 0, no winterer, 1000 coins
        int buyer = yard.man(8, false, 500);                      // 8: a local man
        int lot = yard.bring(seller, 2, 10);                      // 10 of kind 2

        yard.feed(0x66696e65, 0x20372069, 0x6620616d, 0x6f756e74, 0x203e2033);   // fine 7 if amount > 3
        int law = yard.law(0, 0);                                 // of the house: it binds from today

        int deal = yard.deal(seller, buyer, lot, 4, 100, 30, 9);  // 4 of it for 100, in 30 days, at nine
        int bargain = deal - 100;                                 // 1 to 6 would tell why there is none
        int owed = yard.bargain(bargain, 4);                      // 100
        int fine = yard.bargain(bargain, 7);                      // 7
        int ofHouse = yard.chest(9);                              // 4, the half upwards

        boolean later = yard.clock(31);                           // true
        int late = yard.men(buyer, 4);                            // 100
        int came = yard.call(bargain);                            // 100
        int purse = yard.men(seller, 2);                          // 1093
        // README ends
        int[] got = {seller, buyer, lot, law, deal, owed, fine, ofHouse, later ? 1 : 0, late, came, purse};
        int[] due = {0, 1, 0, 0, 100, 100, 7, 4, 1, 100, 100, 1093};
        for (int i = 0; i < due.length; i++) {
            A.due("answer " + i + " of the example", got[i], due[i]);
        }
    }

    private static void sameLines(String readme, String source) {
        A.due("lines of the example that differ", String.join("\n", between(readme, "```java\n", "```"))
                .compareTo(String.join("\n", between(source, "// README begins\n", "        // README ends"))), 0);
    }

    private static List<String> between(String text, String from, String to) {
        int start = text.indexOf(from) + from.length();
        List<String> lines = new ArrayList<>();
        for (String line : text.substring(start, text.indexOf(to, start)).split("\n")) {
            lines.add(line.strip());
        }
        return lines;
    }

    private static void namesCalls(String readme) {
        int calls = 0;
        for (Method one : MerchantYard.class.getDeclaredMethods()) {
            if (Modifier.isPublic(one.getModifiers())) {
                calls++;
                A.yes("README names " + one.getName(), readme.contains("`" + one.getName() + "`"));
            }
        }
        A.due("calls", calls, 48);
    }

    private static void namesTests(String readme, Path folder) throws Exception {
        Set<String> named = new TreeSet<>();
        Matcher m = Pattern.compile("\\b\\w+Test\\b").matcher(readme);
        while (m.find()) {
            named.add(m.group());
        }
        Set<String> there = new TreeSet<>();
        try (Stream<Path> files = Files.list(folder)) {
            files.map(file -> file.getFileName().toString()).filter(name -> name.endsWith("Test.java"))
                    .forEach(name -> there.add(name.substring(0, name.length() - 5)));
        }
        for (String one : there) {
            A.yes("README names " + one, named.contains(one));
        }
        for (String one : named) {
            A.yes(one + " of README is there", there.contains(one));
        }
    }
}
