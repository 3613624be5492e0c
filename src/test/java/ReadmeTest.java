import java.io.IOException;
import java.lang.reflect.Method;
import java.lang.reflect.Modifier;
import java.net.URL;
import java.net.URLClassLoader;
import java.nio.file.Files;
import java.nio.file.Path;
import java.util.ArrayList;
import java.util.List;
import java.util.Map;
import java.util.Set;
import java.util.TreeMap;
import java.util.TreeSet;
import java.util.regex.Matcher;
import java.util.regex.Pattern;
import javax.tools.JavaCompiler;
import javax.tools.ToolProvider;

/**
 * Runs the calls that README.md shows, in their order, and holds their answers against what stands beside them
 * ("call;  // answer: words"). All its java blocks together are one program.
 */
public final class ReadmeTest {
    private static final String README = "README.md";
    private static final Pattern SHOWN = Pattern.compile("(?:(int|long) (\\w+) = )?(\\w.*\\));\\s*// (-?\\d+)(?:: .*)?");
    private static final Pattern CALL = Pattern.compile("\\w+\\.(\\w+)\\(.*\\)");
    private static final Pattern MADE = Pattern.compile("LayerBook \\w+ = new LayerBook\\(\\);.*");
    // What each call refuses, by the document's promises.
    private static final Map<String, long[]> REFUSALS = new TreeMap<>();

    static {
        REFUSALS.put("loan", new long[] {-2, -3, -4});
        REFUSALS.put("loanTold", new long[] {-2});
        REFUSALS.put("paper", new long[] {-2, -3, -4});
        REFUSALS.put("paperTold", new long[] {-2});
        REFUSALS.put("life", new long[] {LayerBook.NO});
        REFUSALS.put("tell", new long[] {-2});
        REFUSALS.put("trip", new long[] {-2});
        REFUSALS.put("feed", new long[] {-2, -4});
        REFUSALS.put("text", new long[] {-4});
        REFUSALS.put("force", new long[] {-2});
        REFUSALS.put("says", new long[] {LayerBook.NO});
        REFUSALS.put("order", new long[] {-4});
        REFUSALS.put("step", new long[] {-2});
        REFUSALS.put("amend", new long[] {-2});
        REFUSALS.put("run", new long[] {-2, -4});
        REFUSALS.put("month", new long[] {-2});
        REFUSALS.put("paid", new long[] {-1, -2});
        REFUSALS.put("buy", new long[] {-2, -3});
        REFUSALS.put("report", new long[] {-1, -2, -11, -12, -13});
        REFUSALS.put("beside", new long[] {LayerBook.NO});
        REFUSALS.put("count", new long[] {-2});
        REFUSALS.put("sheet", new long[] {-2, -14});
        REFUSALS.put("cell", new long[] {-2, -11, -12});
        REFUSALS.put("loans", new long[] {-2, -11, -12, -13});
        REFUSALS.put("taken", new long[] {-2, -11, -13});
    }

    private final List<String> members = new ArrayList<>();
    private final List<String> statements = new ArrayList<>();
    private final List<String> shown = new ArrayList<>();
    private final Map<String, Set<Long>> answers = new TreeMap<>();

    public static void main(String[] args) throws IOException, ReflectiveOperationException {
        ReadmeTest test = new ReadmeTest();
        test.read(Files.readAllLines(Path.of(README)));
        test.play();
        test.allIsShown();
        Due.end("ReadmeTest");
    }

    private void read(List<String> lines) {
        boolean java = false;
        boolean member = false;
        for (int i = 0; i < lines.size(); i++) {
            String line = lines.get(i);
            if (line.startsWith("```")) {
                java = line.equals("```java");
                member = java && lines.get(i + 1).startsWith("static ");
            } else if (java && member) {
                members.add(line);
            } else if (java) {
                statement(README + ":" + (i + 1) + ": " + line.trim(), line);
            }
        }
    }

    /** A statement that is not within a loop must show its answer, but for one that makes a book. */
    private void statement(String name, String line) {
        Matcher told = SHOWN.matcher(line);
        if (told.matches()) {
            String value = told.group(2) == null ? told.group(3) : told.group(2);
            if (told.group(2) != null) {
                statements.add(told.group(1) + " " + told.group(2) + " = " + told.group(3) + ";");
            }
            statements.add("got.add(new long[] {" + shown.size() + ", " + value + ", " + told.group(4) + "L});");
            shown.add(name);
            Matcher call = CALL.matcher(told.group(3));
            if (call.matches()) {
                answers.computeIfAbsent(call.group(1), key -> new TreeSet<>()).add(Long.parseLong(told.group(4)));
            }
            return;
        }
        boolean loop = line.startsWith(" ") || line.equals("}") || line.startsWith("for (");
        Due.holds(name + " shows its answer", line.isEmpty() || loop || MADE.matcher(line).matches());
        statements.add(line);
    }

    private void play() throws IOException, ReflectiveOperationException {
        Path dir = Files.createTempDirectory("readme");
        Path file = dir.resolve("Shown.java");
        List<String> source = new ArrayList<>();
        source.add("public final class Shown {");
        source.addAll(members);
        source.add("public static java.util.List<long[]> play() {");
        source.add("java.util.List<long[]> got = new java.util.ArrayList<>();");
        source.addAll(statements);
        source.add("return got; } }");
        Files.write(file, source);
        JavaCompiler compiler = ToolProvider.getSystemJavaCompiler();
        Due.is("what README.md shows compiles", compiler.run(null, null, null, "-d", dir.toString(), "-cp",
            System.getProperty("java.class.path"), file.toString()), 0);
        try (URLClassLoader loader = new URLClassLoader(new URL[] {dir.toUri().toURL()})) {
            for (Object answer : (List<?>) loader.loadClass("Shown").getMethod("play").invoke(null)) {
                long[] row = (long[]) answer;
                Due.is(shown.get((int) row[0]), row[1], row[2]);
            }
        } finally {
            for (String name : new String[] {"Shown.java", "Shown.class"}) {
                Files.deleteIfExists(dir.resolve(name));
            }
            Files.deleteIfExists(dir);
        }
    }

    /** Each call is shown with an answer, and with each refusal that the document names. */
    private void allIsShown() {
        int calls = 0;
        for (Method m : LayerBook.class.getDeclaredMethods()) {
            if (Modifier.isPublic(m.getModifiers())) {
                calls++;
                Set<Long> told = answers.getOrDefault(m.getName(), Set.of());
                long[] refusals = REFUSALS.getOrDefault(m.getName(), new long[0]);
                for (long refusal : refusals) {
                    Due.holds(README + " shows " + m.getName() + " refusing by " + refusal, told.contains(refusal));
                }
                Due.holds(README + " shows an answer of " + m.getName(), told.stream().anyMatch(a -> a >= 0));
            }
        }
        Due.is("calls whose refusals are told", REFUSALS.size(), calls);
        for (String reader : new String[] {"text", "order"}) {
            Due.holds(README + " shows a FAULT of " + reader, answers.get(reader).stream().anyMatch(a -> a <= -100));
        }
    }
}
