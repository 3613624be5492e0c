import java.io.IOException;
import java.nio.file.Files;
import java.nio.file.Path;
import java.util.regex.Matcher;
import java.util.regex.Pattern;

/** The rules of LANGUAGE.md that can be seen in the source's words. */
public final class RulesTest {
    private static final String[] BANNED = {"\\bthrow\\b", "\\bthrows\\b", "\\btry\\b", "\\bcatch\\b", "\\bsynchronized\\b",
        "\\bassert\\b", "->", "::", "\\bprotected\\b", "\\bpackage\\b", "\\bimport\\b", "\\bMath\\.\\w+Exact\\b", "\\bSystem\\.",
        "\\bThread\\b", "\\bRandom\\b", "\\bstatic\\s*\\{", "\\bhashCode\\b", "\\btoString\\b", "\\bvar\\b", "\\bnative\\b",
        "\\bvolatile\\b", "\\bdouble\\b", "\\bfloat\\b", "\\bObject\\b", "\\b@\\w+"};

    public static void main(String[] args) throws IOException {
        String source = Files.readString(Path.of("src/main/java/LayerBook.java"));
        String code = source.replaceAll("(?s)/\\*.*?\\*/", "").replaceAll("//[^\n]*", "");
        for (String banned : BANNED) {
            Matcher m = Pattern.compile(banned).matcher(code);
            Due.holds("no " + banned, !m.find());
        }
        Due.holds("ASCII alone", source.chars().allMatch(c -> c < 128));
        classes(code);
        methods(code);
        Due.end("RulesTest");
    }

    private static void classes(String code) {
        int count = 0;
        Matcher m = Pattern.compile("(?m)^(.*)\\b(class|interface|enum|record) \\w+").matcher(code);
        while (m.find()) {
            count++;
            Due.holds("the outer class, or private and static: " + m.group(),
                m.group(1).equals("public final ") || m.group(1).equals("    private static final "));
        }
        Due.holds("at most twelve classes: " + count, count > 0 && count <= 12);
    }

    private static void methods(String code) {
        String[] lines = code.split("\n");
        for (int i = 0; i < lines.length; i++) {
            Matcher m = Pattern.compile("^( {4}| {8})(?=\\w)[\\w\\[\\] ]*\\w+\\((.*)\\) \\{$").matcher(lines[i]);
            if (m.find()) {
                int end = i;
                while (end < lines.length && !lines[end].equals(m.group(1) + "}")) {
                    end++;
                }
                Due.holds("a short method: " + lines[i], end - i <= 60);
                Due.holds("at most seven parameters: " + lines[i], m.group(2).split(",").length <= 7);
            }
        }
    }
}
