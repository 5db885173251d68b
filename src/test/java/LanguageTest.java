import java.io.IOException;
import java.nio.file.Files;
import java.nio.file.Path;
import java.util.Set;
import java.util.TreeSet;
import java.util.regex.Matcher;
import java.util.regex.Pattern;

/** LANGUAGE.md, as far as a search in the text of the class can tell. */
public final class LanguageTest {
    private static final Due due = new Due("LanguageTest");
    private static final String[] RULED_OUT = {
        "package", "protected", "finally", "synchronized", "assert", "throws", "throw", "try", "catch", "var", "record", "enum",
        "float", "double", "native", "volatile", "transient", "instanceof", "import static", "->", "::", "\\w+Exact", "System\\.out",
        "hashCode", "equals", "toString", "Float", "Double", "Object", "getClass", "nanoTime", "currentTimeMillis", "Random", "Thread"};
    /** All that the class takes from the library. */
    private static final Set<String> LIBRARY = Set.of("System.arraycopy", "Arrays.fill", "Long.bitCount");

    public static void main(String[] args) throws IOException {
        String text = Files.readString(Path.of("src/main/java/BlockRounds.java"));
        String code = withoutComments(text);
        for (String word : RULED_OUT) {
            String whole = Character.isLetter(word.charAt(0)) ? "\\b" + word + "\\b" : word;
            due.holds("without " + word, !Pattern.compile(whole).matcher(code).find());
        }
        due.is("imports", "[import java.util.Arrays;]", found("import [^;]*;", code).toString());
        for (String call : found("\\b[A-Z][A-Za-z]*\\.[a-z][A-Za-z]*\\b(?= *\\()", code)) {
            due.holds(call + " is in the library that is left", LIBRARY.contains(call));
        }
        due.is("signs of ASCII alone", 0, text.chars().filter(sign -> sign > 126 || sign < 32 && sign != '\n').count());
        due.holds("at most twelve classes", found("\\bclass \\w+", code).size() <= 12);
        objectsOnlyInConstructors(code);
        shortMethods(code);
        due.end();
    }

    private static String withoutComments(String text) {
        return text.replaceAll("(?s)/\\*.*?\\*/", "").replaceAll("//[^\n]*", "");
    }

    private static Set<String> found(String pattern, String code) {
        Set<String> all = new TreeSet<>();
        Matcher matcher = Pattern.compile(pattern).matcher(code);
        while (matcher.find()) {
            all.add(matcher.group());
        }
        return all;
    }

    /** A new object stands in a field's initialiser, or in a constructor. */
    private static void objectsOnlyInConstructors(String code) {
        String method = "";
        for (String line : code.split("\n")) {
            Matcher head = Pattern.compile("^ +(?:public|private) .*?(\\w+)\\([^=;]*\\) \\{$").matcher(line);
            if (head.find()) {
                method = head.group(1);
            }
            if (line.contains("new ") && !line.contains("private final")) {
                due.holds(line.trim() + " stands in a constructor", Character.isUpperCase(method.charAt(0)));
            }
        }
    }

    private static void shortMethods(String code) {
        int since = 0;
        for (String line : code.split("\n")) {
            since = line.matches("^ +(?:public|private) .*\\{$") ? 0 : since + 1;
            due.holds("a method of at most sixty lines: " + line, since <= 60);
        }
    }
}
