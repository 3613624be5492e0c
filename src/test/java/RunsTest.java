import java.io.IOException;
import java.lang.reflect.InvocationTargetException;
import java.lang.reflect.Method;
import java.lang.reflect.Modifier;
import java.nio.file.Files;
import java.nio.file.Path;
import java.util.HashMap;
import java.util.Map;

/** Plays the recorded runs of the second model (src/test/model) and holds each answer against it. */
public final class RunsTest {
    public static void main(String[] args) throws IOException, ReflectiveOperationException {
        Map<String, Method> calls = new HashMap<>();
        for (Method m : LayerBook.class.getDeclaredMethods()) {
            if (Modifier.isPublic(m.getModifiers())) {
                calls.put(m.getName(), m);
            }
        }
        LayerBook x = new LayerBook();
        int run = 0;
        for (String line : Files.readAllLines(Path.of(args.length > 0 ? args[0] : "src/test/runs/runs.txt"))) {
            if (line.equals("new")) {
                x = new LayerBook();
                run++;
            } else {
                play(calls, x, "run " + run + ": " + line, line);
            }
        }
        Due.end("RunsTest");
    }

    private static void play(Map<String, Method> calls, LayerBook x, String name, String line)
            throws IllegalAccessException, InvocationTargetException {
        String[] halves = line.split(" = ");
        String[] words = halves[0].trim().split(" ");
        Method call = calls.get(words[0]);
        Class<?>[] types = call.getParameterTypes();
        Object[] arguments = new Object[types.length];
        for (int i = 0; i < types.length; i++) {
            arguments[i] = types[i] == long.class ? (Object) Long.valueOf(words[i + 1]) : (Object) Integer.valueOf(words[i + 1]);
        }
        Due.is(name, ((Number) call.invoke(x, arguments)).longValue(), Long.parseLong(halves[1]));
    }
}
