import java.lang.reflect.InvocationTargetException;
import java.lang.reflect.Method;
import java.lang.reflect.Modifier;
import java.util.ArrayList;
import java.util.Arrays;
import java.util.Comparator;
import java.util.List;

/**
 * No call throws anything but what its throws clause names, by just that class (what the machine throws is of
 * another), for any arguments in any state; also behind the 512th call, where only the answers are free.
 */
public final class WildArgumentsTest {
    private static final int[] WILD = {Integer.MIN_VALUE, Integer.MIN_VALUE + 1, -1000000, -101, -2, -1, 0, 1, 2, 3, 4,
        5, 9, 10, 12, 13, 14, 20, 21, 23, 24, 25, 31, 32, 33, 50, 51, 59, 60, 61, 100, 101, 126, 127, 5000, 5001,
        1 << 24, Integer.MAX_VALUE - 200, Integer.MAX_VALUE - 1, Integer.MAX_VALUE};

    private static long state = 12345;

    private static int below(int n) {
        state = state * 6364136223846793005L + 1442695040888963407L;
        return (int) ((state >>> 33) % n);
    }

    public static void main(String[] args) {
        everyCallWithEveryWildArgument();
        reportsWithoutEnd(20);
        reportsWithoutEnd(2);
        reportsWithoutEnd(0);
        for (int n = 0; n < 60; n++) {
            randomCalls(3000, n % 3 == 0);
        }
        Check.end();
    }

    private static List<Method> face() {
        List<Method> methods = new ArrayList<>();
        for (Method m : GossipCounts.class.getDeclaredMethods()) {
            if (Modifier.isPublic(m.getModifiers())) {
                methods.add(m);
            }
        }
        methods.sort(Comparator.comparing(Method::getName));
        return methods;
    }

    private static void call(GossipCounts g, Method m, Object... arguments) {
        String what = m.getName() + Arrays.toString(arguments);
        try {
            m.invoke(g, arguments);
            Check.equal(what, "answers", "answers");
        } catch (InvocationTargetException e) {
            boolean named = Arrays.asList(m.getExceptionTypes()).contains(e.getCause().getClass());
            Check.equal(what + " throws " + e.getCause(), named, true);
        } catch (IllegalAccessException e) {
            Check.equal(what, e.toString(), "answers");
        }
    }

    private static GossipCounts someState() {
        GossipCounts g = new GossipCounts();
        for (int n = 0; n < 24; n++) {
            g.add(n % 10);
        }
        for (int n = 0; n < 23; n++) {
            g.put(n, n % 4, n + 1);
        }
        g.take(1, 3);
        g.put(5, 3, 5);
        g.slander(7, -1);
        g.pass(3);
        g.suspect(5);
        g.append('n');
        return g;
    }

    private static void everyCallWithEveryWildArgument() {
        for (Method m : face()) {
            GossipCounts g = someState();
            for (int a : WILD) {
                if (m.getParameterCount() == 0) {
                    call(g, m);
                } else if (m.getParameterCount() == 1) {
                    call(g, m, a);
                } else {
                    for (int b : WILD) {
                        if (m.getParameterCount() == 2) {
                            call(g, m, a, b);
                        } else {
                            call(g, m, a, b, WILD[below(WILD.length)]);
                            call(g, m, below(24), b, a);
                        }
                    }
                }
            }
        }
    }

    /** More reports than 512 calls can make, all under way, or heard at once. */
    private static void reportsWithoutEnd(int delay) {
        GossipCounts g = new GossipCounts();
        for (int n = 0; n < 24; n++) {
            g.add(0);
        }
        for (int s = 0; s < 3; s++) {
            g.set(s, Math.max(0, delay - s));
        }
        for (int n = 0; n < 5000; n++) {
            int thing = n % 24;
            Check.answers("put", true, () -> g.put(thing, 0, (thing + 1) % 24) >= -1);
        }
        for (int thing = 0; thing < 24; thing++) {
            int t = thing;
            Check.answers("bears", true, () -> g.bears(t) >= -1);
        }
        Check.answers("digest", true, () -> g.digest() == g.digest());
        Check.answers("pass", true, () -> g.pass(100) >= 0);
    }

    private static void randomCalls(int calls, boolean tame) {
        GossipCounts g = new GossipCounts();
        List<Method> face = face();
        for (int n = 0; n < calls; n++) {
            Method m = face.get(below(face.size()));
            Object[] arguments = new Object[m.getParameterCount()];
            for (int i = 0; i < arguments.length; i++) {
                arguments[i] = tame ? below(30) - 3 : below(3) == 0 ? WILD[below(WILD.length)] : below(6) - 1;
            }
            call(g, m, arguments);
        }
    }
}
