import java.lang.reflect.InvocationTargetException;
import java.lang.reflect.Method;
import java.lang.reflect.Modifier;
import java.util.ArrayList;
import java.util.Comparator;
import java.util.List;
import java.util.Random;

/** No call may throw, whatever its arguments, and the face is the document's. */
public final class ExtremesTest {
    private static final int[] ODD = {Integer.MIN_VALUE, Integer.MIN_VALUE + 1, -65536, -12, -3, -2, -1, 0, 1, 2, 3, 4, 5, 6,
        7, 8, 9, 10, 11, 12, 13, 39, 40, 41, 59, 60, 61, 62, 100, 200, 1000, 99999, 999999, Integer.MAX_VALUE - 3,
        Integer.MAX_VALUE};
    private static final String[] SOURCES = {"fail 50;late 300;early 20*(month<9);", "fail 9999*9999*month;late -owed;early 1;",
        "fail 0;late 1000;early 0;", "fail not(((-(1))));late((", "pay a;own a if cover<120;keep 700;pay b;part c 9999;rest",
        "fee 9999;rest", "own e;own d;own a if lost=0;rest", "rest;", "part a 50 if not trip=1;keep 9999;rest"};

    public static void main(String[] args) throws IllegalAccessException {
        List<Method> calls = calls();
        face(calls);
        for (int seed = 0; seed < 300; seed++) {
            Due.holds("run " + seed + " throws nothing", plays(calls, new Random(seed)));
        }
        Due.end("ExtremesTest");
    }

    private static List<Method> calls() {
        List<Method> calls = new ArrayList<>();
        for (Method m : LayerBook.class.getDeclaredMethods()) {
            if (Modifier.isPublic(m.getModifiers())) {
                calls.add(m);
            }
        }
        calls.sort(Comparator.comparing(Method::getName));
        return calls;
    }

    private static void face(List<Method> calls) {
        StringBuilder names = new StringBuilder();
        for (Method m : calls) {
            names.append(m.getName()).append(m.getParameterCount()).append(m.getReturnType().getName().charAt(0)).append(' ');
        }
        Due.holds("the face: " + names, names.toString().equals("amend2i beside3l buy1i cell3i count1i feed2i force1i "
            + "life2l loan4i loanTold2i loans4i month2i order0i paid2i paper2i paperTold2i report5i run1i says2l sheet3i "
            + "step3i taken2i tell2i text0i trip2i "));
        Due.is("NONE", LayerBook.NONE, -1);
        Due.is("BAD", LayerBook.BAD, -2);
        Due.is("STATE", LayerBook.STATE, -3);
        Due.is("FULL", LayerBook.FULL, -4);
        Due.is("NO", LayerBook.NO, -4611686018427387904L);
    }

    private static boolean plays(List<Method> calls, Random random) throws IllegalAccessException {
        LayerBook x = new LayerBook();
        for (int n = random.nextInt(13); n > 0; n--) {
            x.loan(random.nextInt(6), 1000 + random.nextInt(998999), random.nextInt(201), 1 + random.nextInt(60));
        }
        for (int p = random.nextInt(6); p > 0; p--) {
            x.paper(1 + random.nextInt(random.nextBoolean() ? 9999999 : 5000), random.nextInt(201));
        }
        for (int i = 0; i < 480; i++) {
            if (random.nextInt(8) == 0) {
                prepares(x, random);
            }
            Method call = calls.get(random.nextInt(calls.size()));
            try {
                call.invoke(x, arguments(call, random));
            } catch (InvocationTargetException thrown) {
                System.out.println(call.getName() + " threw " + thrown.getCause());
                return false;
            }
        }
        return true;
    }

    private static void prepares(LayerBook x, Random random) {
        Due.feed(x, SOURCES[random.nextInt(SOURCES.length)]);
        if (random.nextBoolean()) {
            x.force(x.text());
        } else {
            x.amend(1 + random.nextInt(1 + x.count(5)), x.order());
        }
        if (random.nextInt(3) == 0) {
            x.run(1);
        }
    }

    private static Object[] arguments(Method call, Random random) {
        Class<?>[] types = call.getParameterTypes();
        Object[] arguments = new Object[types.length];
        for (int i = 0; i < types.length; i++) {
            int odd = random.nextBoolean() ? random.nextInt(5) : ODD[random.nextInt(ODD.length)];
            arguments[i] = types[i] == long.class ? (Object) random.nextLong() : (Object) odd;
        }
        return arguments;
    }
}
