import java.io.IOException;
import java.lang.reflect.Method;
import java.nio.charset.StandardCharsets;
import java.nio.file.Files;
import java.nio.file.Path;
import java.util.LinkedHashMap;
import java.util.List;
import java.util.Map;

/**
 * Tells which sentences of the document no test quotes, and which quotes are not in it; the document's path is the
 * first argument. It is no test: a new document should show what is to be done, not stop what stands from landing.
 */
public final class Sentences {
    private static final List<Class<?>> TESTS = List.of(TermsOfThingsTest.class, TermsOfReportsTest.class,
            TermsOfEndsTest.class, TermsOfTextsTest.class, Promises01To10Test.class, Promises11To15Test.class,
            Promises16To22Test.class, Promises23To30Test.class);

    private final Map<String, String> sections = new LinkedHashMap<>();
    private final Map<String, boolean[]> quoted = new LinkedHashMap<>();
    private int strange = 0;

    public static void main(String[] args) throws IOException {
        Sentences s = new Sentences();
        s.read(Files.readString(Path.of(args[0]), StandardCharsets.UTF_8));
        int quotes = 0;
        for (Class<?> tests : TESTS) {
            for (Method m : tests.getDeclaredMethods()) {
                Boundary.Holds holds = m.getAnnotation(Boundary.Holds.class);
                for (String quote : holds == null ? new String[0] : holds.says()) {
                    s.mark(m.getName(), holds.in(), quote);
                    quotes++;
                }
            }
        }
        int left = s.tellWhatIsLeft();
        System.out.println(quotes + " quotes, " + s.strange + " not in the document; " + left
                + " pieces of the document without a test");
    }

    /** By headings; what is no sentence (the face, the signatures) is left out. */
    private void read(String document) {
        String heading = "";
        boolean inCode = false;
        for (String line : document.split("\n")) {
            if (line.startsWith("```")) {
                inCode = !inCode;
            } else if (line.startsWith("#")) {
                heading = line.replaceAll("^#+ ", "");
            } else if (!inCode && !line.isBlank()) {
                String text = line.replaceAll("^`(int|double|long) \\w+\\(.*?`: ", "").replaceAll("^- ", "");
                sections.merge(heading, text, (a, b) -> a + "\n" + b);
            }
        }
        sections.forEach((name, text) -> quoted.put(name, new boolean[text.length()]));
    }

    private void mark(String test, String in, String quote) {
        boolean found = false;
        for (Map.Entry<String, String> section : sections.entrySet()) {
            String name = section.getKey();
            if (!name.equals(in) && !name.startsWith(in + ":")) {
                continue;
            }
            String text = section.getValue().toLowerCase();
            for (int at = text.indexOf(quote.toLowerCase()); at >= 0; at = text.indexOf(quote.toLowerCase(), at + 1)) {
                found = true;
                for (int i = at; i < at + quote.length(); i++) {
                    quoted.get(name)[i] = true;
                }
            }
        }
        if (!found) {
            strange++;
            System.out.println(test + " quotes what is not under " + in + ": " + quote);
        }
    }

    private int tellWhatIsLeft() {
        int left = 0;
        for (Map.Entry<String, String> section : sections.entrySet()) {
            boolean[] marks = quoted.get(section.getKey());
            StringBuilder rest = new StringBuilder();
            for (int i = 0; i <= marks.length; i++) {
                if (i < marks.length && !marks[i]) {
                    rest.append(section.getValue().charAt(i));
                } else if (rest.length() > 0) {
                    if (rest.toString().matches("(?s).*\\w.*")) {
                        left++;
                        System.out.println("no test quotes, under " + section.getKey() + ": " + rest.toString().strip());
                    }
                    rest.setLength(0);
                }
            }
        }
        return left;
    }
}
