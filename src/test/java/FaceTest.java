import java.lang.reflect.Constructor;
import java.lang.reflect.Executable;
import java.lang.reflect.Field;
import java.lang.reflect.Method;
import java.lang.reflect.Modifier;
import java.util.Arrays;
import java.util.Set;
import java.util.TreeSet;

/** The face is the document's, and nothing more can be seen from outside. */
public final class FaceTest {
    private static final String[] FACE = {
        "int add(int) throws IllegalArgumentException, IllegalStateException",
        "int take(int, int) throws IndexOutOfBoundsException, IllegalStateException",
        "int put(int, int, int) throws IndexOutOfBoundsException, IllegalStateException",
        "int slander(int, int) throws IndexOutOfBoundsException, IllegalArgumentException, IllegalStateException",
        "int suspect(int) throws IndexOutOfBoundsException, IllegalStateException",
        "int set(int, int) throws IndexOutOfBoundsException, IllegalArgumentException",
        "int pass(int) throws IllegalArgumentException, IllegalStateException",
        "int trial()",
        "int audit()",
        "int append(int) throws IllegalArgumentException, IllegalStateException",
        "int clearBuffer()",
        "int firstError()",
        "int run() throws IllegalArgumentException",
        "int undo() throws IllegalStateException",
        "int thing(int, int) throws IndexOutOfBoundsException, IllegalArgumentException",
        "int slot(int, int) throws IndexOutOfBoundsException",
        "int hand(int) throws IndexOutOfBoundsException",
        "int report(int, int) throws IndexOutOfBoundsException, IllegalArgumentException",
        "int ended(int) throws IndexOutOfBoundsException",
        "int count(int) throws IllegalArgumentException",
        "int setting(int) throws IndexOutOfBoundsException",
        "int ifPassed(int, int) throws IllegalArgumentException",
        "int endsIn(int) throws IndexOutOfBoundsException",
        "int ifTried(int) throws IllegalArgumentException",
        "int ring(int) throws IndexOutOfBoundsException",
        "int bestCut(int) throws IllegalArgumentException",
        "int bears(int) throws IndexOutOfBoundsException",
        "double reachedShare()",
        "long digest()"
    };

    public static void main(String[] args) {
        Set<String> due = new TreeSet<>(Arrays.asList(FACE));
        Set<String> found = new TreeSet<>();
        Set<String> publicNames = new TreeSet<>();
        for (Method m : GossipCounts.class.getDeclaredMethods()) {
            if (Modifier.isPublic(m.getModifiers())) {
                found.add(m.getReturnType() + " " + m.getName() + told(m));
                publicNames.add(m.getName());
                Check.equal(m + " belongs to an object", Modifier.isStatic(m.getModifiers()), false);
            }
        }
        Check.equal("the public methods", found, due);
        for (Method m : GossipCounts.class.getDeclaredMethods()) {
            boolean seen = Modifier.isPublic(m.getModifiers());
            Check.equal(m + " is public or private", seen || Modifier.isPrivate(m.getModifiers()), true);
            Check.equal(m + " has a name of its own", seen || !publicNames.contains(m.getName()), true);
        }
        Constructor<?>[] makers = GossipCounts.class.getDeclaredConstructors();
        Check.equal("constructors", makers.length, 1);
        Check.equal("the constructor", Modifier.isPublic(makers[0].getModifiers()) + told(makers[0]), "true()");
        Check.equal("the class is public and final", GossipCounts.class.getModifiers(),
                Modifier.PUBLIC | Modifier.FINAL);
        fields(GossipCounts.class);
        Class<?>[] inside = GossipCounts.class.getDeclaredClasses();
        Check.equal("twelve classes at most", inside.length <= 11, true);
        for (Class<?> c : inside) {
            int how = c.getModifiers();
            Check.equal(c + " is private or package-visible, and static", Modifier.isStatic(how)
                    && !Modifier.isPublic(how) && !Modifier.isProtected(how), true);
            fields(c);
            for (Method m : c.getDeclaredMethods()) {
                Check.equal(m + " has a name of its own", publicNames.contains(m.getName()), false);
                Check.equal(m + " takes seven at most", m.getParameterCount() <= 7, true);
            }
        }
        Check.end();
    }

    private static void fields(Class<?> c) {
        int ofObjects = 0;
        for (Field f : c.getDeclaredFields()) {
            int how = f.getModifiers();
            if (!Modifier.isStatic(how)) {
                ofObjects++;
            }
            Check.equal(f + " is of an object, or final", !Modifier.isStatic(how) || Modifier.isFinal(how), true);
            boolean isFace = Modifier.isPublic(how) && f.getName().equals("NONE") && f.getType() == int.class;
            Check.equal(f + " is private, or the face's", c != GossipCounts.class || isFace
                    || Modifier.isPrivate(how), true);
        }
        Check.equal(c + " has some twenty fields at most", ofObjects <= 20, true);
    }

    private static String told(Executable e) {
        StringBuilder s = new StringBuilder("(");
        for (Class<?> p : e.getParameterTypes()) {
            s.append(s.length() > 1 ? ", " : "").append(p);
        }
        s.append(")");
        String join = " throws ";
        for (Class<?> t : e.getExceptionTypes()) {
            s.append(join).append(t.getSimpleName());
            join = ", ";
        }
        return s.toString();
    }
}
