import java.io.IOException;
import java.nio.charset.StandardCharsets;
import java.nio.file.Files;
import java.nio.file.Path;
import java.util.regex.Matcher;
import java.util.regex.Pattern;

/** What of LANGUAGE.md can be seen in the text of the class; the path of the source is the first argument. */
public final class LanguageTest {
    private static final int LONGEST_METHOD = 60;

    private static final String[] FORBIDDEN = {
        "->", "::", "\\bimport\\b", "\\bpackage\\b", "\\bfinally\\b", "\\bcatch\\b", "\\btry\\b", "\\bsynchronized\\b",
        "\\bassert\\b", "\\bextends\\b.*Exception", "\\bhashCode\\b", "\\bequals\\b", "\\btoString\\b", "\\w+Exact\\b",
        "\\bDouble\\.", "\\bFloat\\.", "\\bObject\\b", "\\bvar\\b", "\\bnative\\b", "\\bvolatile\\b",
        "\\bjava\\.", "\\bjavax\\.", "\\bThread\\b", "\\bprotected\\b", "@\\w+", "\"\\s*\\+", "\\+\\s*\""
    };

    private static final String LIBRARY = "System\\.arraycopy|Integer\\.(bitCount|numberOfTrailingZeros)|Math\\.floorMod";

    private static final String THROW = "throw new (IllegalStateException|IllegalArgumentException"
            + "|IndexOutOfBoundsException)\\(\"[^\"]*\"\\);";

    public static void main(String[] args) throws IOException {
        Path path = Path.of(args.length > 0 ? args[0] : "src/main/java/GossipCounts.java");
        String source = Files.readString(path, StandardCharsets.UTF_8);
        Check.equal("signs 1 to 127", source.chars().allMatch(c -> c > 0 && c < 128), true);
        String code = source.replaceAll("(?s)/\\*.*?\\*/", "").replaceAll("//[^\\n]*", "");
        for (String word : FORBIDDEN) {
            Matcher m = Pattern.compile(word).matcher(code);
            Check.equal("the source has " + word, m.find() ? m.group() : "nothing", "nothing");
        }
        Matcher calls = Pattern.compile("\\b(System|Integer|Long|Math|Arrays|String)\\.\\w+").matcher(code);
        while (calls.find()) {
            Check.equal("library: " + calls.group(), calls.group().matches(LIBRARY), true);
        }
        for (String line : code.split("\n")) {
            if (line.contains("throw ")) {
                Check.equal("rule 6: " + line.strip(), line.strip().matches(THROW), true);
            }
            Check.equal("rule 5: " + line.strip(),
                    !line.matches(".*\\bstatic\\b.*[=;].*") || line.contains("static final "), true);
        }
        methods(code);
        Check.end();
    }

    /** Methods stand at one or two levels, so they end with the brace of the same depth. */
    private static void methods(String code) {
        String[] lines = code.split("\n");
        Pattern head = Pattern.compile("^( {4}| {8})(?! |return|else|new)[\\w\\[\\] ]+\\([^;]*\\{$");
        for (int i = 0; i < lines.length; i++) {
            Matcher m = head.matcher(lines[i]);
            if (m.find() && !lines[i].matches("\\s*(if|for|while|switch|do)\\b.*")) {
                int end = i;
                while (end < lines.length && !lines[end].equals(m.group(1) + "}")) {
                    end++;
                }
                Check.equal("rule 11: " + lines[i].strip() + " is short", end - i + 1 <= LONGEST_METHOD, true);
            }
        }
    }
}
