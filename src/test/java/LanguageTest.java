import java.nio.file.Files;
import java.nio.file.Path;
import java.util.ArrayList;
import java.util.List;
import java.util.TreeSet;
import java.util.Set;
import java.util.regex.Matcher;
import java.util.regex.Pattern;

/** What can be told of the rules of LANGUAGE.md from the source's lines. The argument is the project's folder. */
public final class LanguageTest {
    private static final Answers A = new Answers("LanguageTest");
    private static final String METHOD =
            "(?m)^( +)((?:public |private |static |final )*)(?!public |private )(?:[\\w<>\\[\\]]+ )(\\w+)\\(([^)]*)\\) \\{$";

    public static void main(String[] args) throws Exception {
        Path file = Path.of(args.length > 0 ? args[0] : ".", "src/main/java/MerchantYard.java");
        String text = Files.readString(file).replaceAll("(?s)/\\*.*?\\*/", "").replaceAll("//[^\n]*", "");
        words(text);
        face(text);
        methods(text);
        A.end();
    }

    private static void words(String text) {
        String code = text.replaceAll("\"[^\"\n]*\"", "\"\"");
        String[] banned = {"\\bthrow\\b", "\\btry\\b", "\\bcatch\\b", "\\bsynchronized\\b", "\\bassert\\b", "->", "::",
            "\\bprotected\\b", "\\bdouble\\b", "\\bfloat\\b", "static \\{", "while \\(true\\)", "for \\(;;", "\\bpackage\\b",
            "Exact\\b", "\\.equals\\(", "\\btoString\\b", "\\bhashCode\\b", "\"\" \\+", "\\+ \"\"", "\\bSystem\\.(?!arraycopy)"};
        for (String one : banned) {
            A.no(one + " stands in the source", Pattern.compile(one).matcher(code).find());
        }
        Matcher imports = Pattern.compile("(?m)^import ([^;]+);").matcher(code);
        while (imports.find()) {
            A.yes("import of " + imports.group(1), imports.group(1).equals("java.util.ArrayList"));
        }
        A.yes("signs from 1 to 127 alone", text.chars().allMatch(sign -> sign > 0 && sign < 128));
        A.yes("classes", count(code, "\\bclass \\w+") <= 12);
        A.due("public members", count(code, "\\bpublic\\b"), 1 + 1 + 1 + 48);
        A.no("a static field that is not final", Pattern.compile("static (?!final)[\\w\\[\\]]+ \\w+( =|;)").matcher(code).find());
    }

    private static int count(String code, String what) {
        Matcher found = Pattern.compile(what).matcher(code);
        int n = 0;
        while (found.find()) {
            n++;
        }
        return n;
    }

    private static void face(String text) {
        Set<String> open = new TreeSet<>();
        List<String> others = new ArrayList<>();
        Matcher m = Pattern.compile(METHOD).matcher(text);
        while (m.find()) {
            if (m.group(2).contains("public")) {
                open.add(m.group(3));
            } else {
                others.add(m.group(3));
                A.yes(m.group(3) + " of the class itself is private", m.group(1).length() > 4 || m.group(2).contains("private"));
            }
        }
        A.due("names of the face", open.size(), 48);
        for (String other : others) {
            A.no(other + " bears the name of a public method", open.contains(other));
        }
    }

    private static void methods(String text) {
        Matcher m = Pattern.compile(METHOD).matcher(text);
        while (m.find()) {
            String end = "\n" + m.group(1) + "}";
            int to = text.indexOf(end, m.end());
            String body = text.substring(m.start(), to);
            A.yes(m.group(3) + " is short", body.lines().count() <= 60);
            A.yes(m.group(3) + " takes at most seven", m.group(4).isEmpty() || m.group(4).split(",").length <= 7);
        }
    }
}
