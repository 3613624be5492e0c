import java.io.IOException;
import java.lang.reflect.Constructor;
import java.lang.reflect.Field;
import java.lang.reflect.Method;
import java.lang.reflect.Modifier;
import java.nio.file.Files;
import java.nio.file.Path;
import java.util.Map;
import java.util.Set;
import java.util.TreeSet;
import java.util.regex.Matcher;
import java.util.regex.Pattern;

/** The rules of LANGUAGE.md, as far as they can be seen in the source's words, in the compiler's tree and in the face. */
public final class RulesTest {
    private static final String FILE = "src/main/java/LayerBook.java";
    private static final String[] BANNED = {"\\bthrow\\b", "\\bthrows\\b", "\\btry\\b", "\\bcatch\\b", "\\bsynchronized\\b",
        "\\bassert\\b", "->", "::", "\\bprotected\\b", "\\bpackage\\b", "\\bimport\\b", "\\bMath\\.\\w+Exact\\b", "\\bSystem\\.",
        "\\bThread\\b", "\\bRandom\\b", "\\bstatic\\s*\\{", "\\bequals\\b", "\\bhashCode\\b", "\\btoString\\b", "\\bvar\\b",
        "\\bnative\\b", "\\bvolatile\\b", "\\bdouble\\b", "\\bfloat\\b", "\\bObject\\b", "@\\w+", "while \\(true\\)", "for \\(;;\\)"};

    public static void main(String[] args) throws IOException {
        words();
        face();
        tree(Source.of(FILE));
        Due.end("RulesTest");
    }

    private static void words() throws IOException {
        Due.sentence("LANGUAGE.md, rules 1, 6, 9, 13");
        String source = Files.readString(Path.of(FILE));
        String code = source.replaceAll("(?s)/\\*.*?\\*/", "").replaceAll("//[^\n]*", "");
        for (String banned : BANNED) {
            Matcher m = Pattern.compile(banned).matcher(code);
            Due.holds("no " + banned, !m.find());
        }
        Due.holds("ASCII alone", source.chars().allMatch(c -> c < 128));
    }

    private static void face() {
        Due.sentence("LANGUAGE.md, rule 1");
        Set<String> open = new TreeSet<>();
        for (Method m : LayerBook.class.getDeclaredMethods()) {
            if (Modifier.isPublic(m.getModifiers())) {
                open.add(m.getName());
                Due.holds(m.getName() + " is no static one", !Modifier.isStatic(m.getModifiers()));
            } else {
                Due.holds(m.getName() + " is private", Modifier.isPrivate(m.getModifiers()));
            }
        }
        Due.is("public methods, of as many names", open.size(), 25);
        for (Constructor<?> c : LayerBook.class.getDeclaredConstructors()) {
            Due.holds("one constructor, public, that takes nothing",
                Modifier.isPublic(c.getModifiers()) && c.getParameterCount() == 0);
        }
        Set<String> constants = new TreeSet<>();
        for (Field f : LayerBook.class.getDeclaredFields()) {
            if (Modifier.isPublic(f.getModifiers())) {
                constants.add(f.getName());
            } else {
                Due.holds(f.getName() + " is private", Modifier.isPrivate(f.getModifiers()));
            }
        }
        Due.same("constants", constants.toString(), "[BAD, FULL, NO, NONE, STATE]");
        for (Class<?> inside : LayerBook.class.getDeclaredClasses()) {
            Due.holds(inside + " is static", Modifier.isStatic(inside.getModifiers()));
            for (Method m : inside.getDeclaredMethods()) {
                Due.holds(m + " bears no public name", !open.contains(m.getName()));
            }
        }
    }

    private static void tree(Source source) {
        Due.sentence("LANGUAGE.md");
        for (String fault : source.faults) {
            Due.holds(fault, false);
        }
        Due.sentence("LANGUAGE.md, rule 8");
        Due.same("what calls itself, held by Law's count of what is open", new TreeSet<>(source.recursive()).toString(),
            "[Law.readChain, Law.readCompared, Law.readOne]");
        Due.sentence("LANGUAGE.md, rule 11");
        Due.holds("calls go at most eight deep: " + source.depth(), source.depth() <= 8);
        Due.holds("at most twelve classes: " + source.classes.size(), source.classes.size() <= 12);
        most("fields of ", source.fieldsOf, 20);
        most("parameters of ", source.parametersOf, 7);
        most("lines of ", source.linesOf, 60);
    }

    private static void most(String what, Map<String, Integer> counts, int most) {
        Due.holds("some " + what, !counts.isEmpty());
        for (Map.Entry<String, Integer> c : counts.entrySet()) {
            Due.holds(what + c.getKey() + ": " + c.getValue(), c.getValue() <= most);
        }
    }
}
