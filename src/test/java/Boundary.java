import java.lang.annotation.ElementType;
import java.lang.annotation.Retention;
import java.lang.annotation.RetentionPolicy;
import java.lang.annotation.Target;
import java.lang.reflect.InvocationTargetException;
import java.lang.reflect.Method;
import java.lang.reflect.Modifier;
import java.util.Arrays;
import java.util.Comparator;

/** What the tests of single sentences share: each one is a method that quotes the sentence it holds the class to. */
final class Boundary {
    static final int NONE = GossipCounts.NONE;
    static final String ARGUMENT = "throws.IllegalArgumentException";
    static final String INDEX = "throws.IndexOutOfBoundsException";
    static final String STATE = "throws.IllegalStateException";

    /** The sentence of the document, and the heading under which it stands. */
    @Retention(RetentionPolicy.RUNTIME)
    @Target(ElementType.METHOD)
    @interface Holds {
        String in();

        String[] says();
    }

    interface Made {
        GossipCounts object();
    }

    interface Asked {
        Object of(GossipCounts g);
    }

    private static String sentence = "";

    private Boundary() {
    }

    /** Runs each method that quotes a sentence; one that forgets to is an error. */
    static void runAll(Class<?> tests) {
        Method[] methods = tests.getDeclaredMethods();
        Arrays.sort(methods, Comparator.comparing(Method::getName));
        for (Method m : methods) {
            boolean named = m.getName().startsWith("promise") || m.getName().startsWith("term");
            boolean quotes = m.isAnnotationPresent(Holds.class);
            Check.equal(m.getName() + " quotes a sentence, just if its name begins with promise or term", quotes, named);
            Check.equal(m.getName() + " is static", Modifier.isStatic(m.getModifiers()), true);
            if (quotes) {
                runOne(m);
            }
        }
        Check.end();
    }

    private static void runOne(Method m) {
        sentence = m.getName();
        try {
            m.invoke(null);
        } catch (InvocationTargetException e) {
            Check.equal(sentence + " ends", e.getCause().toString(), "ends");
        } catch (IllegalAccessException e) {
            Check.equal(sentence + " can be run", e.toString(), "can be run");
        }
    }

    static void is(String what, Object got, Object want) {
        Check.equal(sentence + ": " + what, got, want);
    }

    /** The call is allowed, and answers so. */
    static void allows(String what, Object want, Made made, Asked call) {
        GossipCounts g = made.object();
        is(what, Check.outcome(() -> call.of(g)), want);
    }

    /** The call throws this, and leaves all as it is in an object that was made alike and not called. */
    static void refuses(String what, String thrown, Made made, Asked call) {
        GossipCounts called = made.object();
        is(what, Check.outcome(() -> call.of(called)), thrown);
        alike(what + ", then", called, made.object());
    }

    /** The call may be answered, but leaves all as it is. */
    static void changesNothing(String what, Made made, Asked call) {
        GossipCounts called = made.object();
        Check.outcome(() -> call.of(called));
        alike(what + ", then", called, made.object());
    }

    /**
     * Both tell the same, now and in each state that undo brings back. What is looked at comes first, as a digest,
     * which looks ahead, could change it in both.
     */
    static void alike(String what, GossipCounts a, GossipCounts b) {
        is(what + " the looks", looks(a), looks(b));
        is(what + " the digest", a.digest(), b.digest());
        for (int n = 1; n <= 7; n++) {
            is(what + " undo " + n, Check.outcome(a::undo), Check.outcome(b::undo));
            is(what + " the digest behind undo " + n, a.digest(), b.digest());
        }
    }

    /** The call saves one state, the one from before it, which undo brings back. */
    static void undoable(String what, Made made, Asked call) {
        GossipCounts called = made.object();
        int states = called.count(13);
        call.of(called);
        is(what + ": one saved state more", called.count(13), states + 1);
        is(what + ": undo tells how many are left", called.undo(), states);
        alike(what + ", undone,", called, made.object());
    }

    // ---- objects to ask

    /** So many things of rank 0, with all delays 0, so that reports are heard at once. */
    static GossipCounts quick(int things) {
        GossipCounts g = new GossipCounts();
        delays(g, 0, 0, 0);
        for (int n = 0; n < things; n++) {
            g.add(0);
        }
        return g;
    }

    /** So many things of rank 0, with the delays that there are at first. */
    static GossipCounts slow(int things) {
        GossipCounts g = new GossipCounts();
        for (int n = 0; n < things; n++) {
            g.add(0);
        }
        return g;
    }

    static void delays(GossipCounts g, int first, int second, int third) {
        g.set(0, first);
        g.set(1, second);
        g.set(2, third);
    }

    /**
     * Things 0, 2, 3 and 4 live, 1 has ended; hand 0 holds 0, which holds 2; 3 holds itself and is a suspect;
     * two reports for 2 are under way; the text is "j;", and there are six saved states.
     */
    static GossipCounts busy() {
        GossipCounts g = new GossipCounts();
        g.set(1, 0);
        for (int rank : new int[] {4, 3, 3, 7, 0}) {
            g.add(rank);
        }
        g.slander(1, -1);
        g.take(0, 0);
        g.put(0, 0, 2);
        g.put(3, 0, 3);
        g.pass(1);
        g.suspect(3);
        g.slander(2, -1);
        type(g, "j;");
        return g;
    }

    /** The same with only three saved states, so that there is room for another one. */
    static GossipCounts roomy() {
        GossipCounts g = busy();
        g.undo();
        g.undo();
        g.undo();
        return g;
    }

    /**
     * In five ticks all that can happen does: slander for 0 is found, 4 ends by its count, 1, 2 and 5 end in a trial,
     * 1 wronged by a hand, and 3 becomes a suspect.
     */
    static GossipCounts eventful() {
        GossipCounts g = quick(6);
        g.set(3, 1);
        g.take(0, 0);
        for (int slot = 0; slot < 4; slot++) {
            g.put(1, slot, slot < 2 ? 1 : slot);
        }
        g.take(1, 1);
        g.take(2, 3);
        g.slander(1, -1);
        g.suspect(5);
        g.set(0, 3);
        g.slander(0, -1);
        g.set(0, 0);
        g.set(1, 2);
        g.slander(4, -1);
        g.set(4, 5);
        return g;
    }

    static void type(GossipCounts g, String text) {
        g.clearBuffer();
        for (char c : text.toCharArray()) {
            g.append(c);
        }
    }

    static GossipCounts typed(GossipCounts g, String text) {
        type(g, text);
        return g;
    }

    /** So many ticks, a hundred a call. */
    static GossipCounts late(GossipCounts g, int ticks) {
        for (int left = ticks; left > 0; left -= 100) {
            g.pass(Math.min(left, 100));
        }
        return g;
    }

    /** All that can be looked at without looking ahead, and the first error of the text. */
    static String looks(GossipCounts g) {
        StringBuilder s = new StringBuilder("counts");
        for (int what = 0; what <= 13; what++) {
            s.append(" ").append(g.count(what));
        }
        s.append(", settings");
        for (int setting = 0; setting <= 4; setting++) {
            s.append(" ").append(g.setting(setting));
        }
        s.append(", hands");
        for (int hand = 0; hand <= 3; hand++) {
            s.append(" ").append(g.hand(hand));
        }
        for (int thing = 0; thing < g.count(1); thing++) {
            s.append(", thing ").append(thing).append(":");
            for (int what = 0; what <= 12; what++) {
                s.append(" ").append(g.thing(thing, what));
            }
            s.append(" holds");
            for (int slot = 0; slot <= 3; slot++) {
                s.append(" ").append(g.slot(thing, slot));
            }
        }
        return s + ", reports " + underWay(g) + ", ends " + ends(g) + ", first error " + g.firstError();
    }

    /** All reports under way, in their order: number, thing, by, due time and whether it is false. */
    static String underWay(GossipCounts g) {
        StringBuilder s = new StringBuilder();
        for (int place = 0; place < g.count(5); place++) {
            s.append(place == 0 ? "" : " ").append(g.report(place, 0));
            for (int what = 1; what <= 4; what++) {
                s.append(what == 1 ? ":" : ",").append(g.report(place, what));
            }
        }
        return s.toString();
    }

    /** All ends in their order. */
    static String ends(GossipCounts g) {
        StringBuilder s = new StringBuilder();
        for (int end = 0; end < g.count(7); end++) {
            s.append(end == 0 ? "" : " ").append(g.ended(end));
        }
        return s.toString();
    }

    /** All suspects by their numbers. */
    static String suspects(GossipCounts g) {
        StringBuilder s = new StringBuilder();
        for (int thing = 0; thing < g.count(1); thing++) {
            if (g.thing(thing, 6) == 1) {
                s.append(s.length() == 0 ? "" : " ").append(thing);
            }
        }
        return s.toString();
    }
}
