import java.io.DataInputStream;
import java.io.IOException;
import java.lang.reflect.Executable;
import java.lang.reflect.Field;
import java.lang.reflect.Modifier;
import java.nio.file.Files;
import java.nio.file.Path;
import java.util.ArrayList;
import java.util.List;
import java.util.Set;
import java.util.TreeSet;
import java.util.regex.Matcher;
import java.util.regex.Pattern;

/** LANGUAGE.md, as far as a search in the text of the class, and in what it is compiled to, can tell. */
public final class LanguageTest {
    private static final Due due = new Due("LanguageTest");
    private static final String[] RULED_OUT = {
        "package", "protected", "finally", "synchronized", "assert", "throws", "throw", "try", "catch", "var", "record", "enum",
        "float", "double", "native", "volatile", "transient", "instanceof", "import static", "->", "::", "\\w+Exact", "System\\.out",
        "hashCode", "equals", "toString", "Float", "Double", "Object", "getClass", "nanoTime", "currentTimeMillis", "Random", "Thread"};
    /** All that the class takes from the library. */
    private static final Set<String> LIBRARY = Set.of("System.arraycopy", "Arrays.fill", "Long.bitCount");
    /** The same as the compiled class names it, with the constructor that each object has. */
    private static final Set<String> COMPILED_LIBRARY = Set.of("java/lang/System.arraycopy", "java/util/Arrays.fill",
        "java/lang/Long.bitCount", "java/lang/Object.<init>");

    public static void main(String[] args) throws IOException {
        String text = Files.readString(Path.of("src/main/java/BlockRounds.java"));
        String code = withoutComments(text);
        for (String word : RULED_OUT) {
            String whole = Character.isLetter(word.charAt(0)) ? "\\b" + word + "\\b" : word;
            due.holds("without " + word, !Pattern.compile(whole).matcher(code).find());
        }
        due.is("imports", "[import java.util.Arrays;]", found("import [^;]*;", code).toString());
        for (String call : found("\\b[A-Z][A-Za-z]*\\.[a-z][A-Za-z]*\\b(?= *\\()", code)) {
            due.holds(call + " is in the library that is left", LIBRARY.contains(call));
        }
        due.is("signs of ASCII alone", 0, text.chars().filter(sign -> sign > 126 || sign < 32 && sign != '\n').count());
        due.holds("at most twelve classes", found("\\bclass \\w+", code).size() <= 12);
        objectsOnlyInConstructors(code);
        shortMethods(code);
        due.holds("without a text", code.indexOf('"') < 0);
        for (Class<?> each : classes()) {
            parametersAndFields(each);
            callsOf(each);
        }
        due.end();
    }

    private static String withoutComments(String text) {
        return text.replaceAll("(?s)/\\*.*?\\*/", "").replaceAll("//[^\n]*", "");
    }

    private static Set<String> found(String pattern, String code) {
        Set<String> all = new TreeSet<>();
        Matcher matcher = Pattern.compile(pattern).matcher(code);
        while (matcher.find()) {
            all.add(matcher.group());
        }
        return all;
    }

    /** A new object stands in a field's initialiser, or in a constructor. */
    private static void objectsOnlyInConstructors(String code) {
        String method = "";
        for (String line : code.split("\n")) {
            Matcher head = Pattern.compile("^ +(?:public|private) .*?(\\w+)\\([^=;]*\\) \\{$").matcher(line);
            if (head.find()) {
                method = head.group(1);
            }
            if (line.contains("new ") && !line.contains("private final")) {
                due.holds(line.trim() + " stands in a constructor", Character.isUpperCase(method.charAt(0)));
            }
        }
    }

    private static void shortMethods(String code) {
        int since = 0;
        for (String line : code.split("\n")) {
            since = line.matches("^ +(?:public|private) .*\\{$") ? 0 : since + 1;
            due.holds("a method of at most sixty lines: " + line, since <= 60);
        }
    }

    private static List<Class<?>> classes() {
        List<Class<?>> all = new ArrayList<>(List.of(BlockRounds.class.getDeclaredClasses()));
        all.add(BlockRounds.class);
        return all;
    }

    /** "A method takes at most seven parameters", "a class some twenty fields beside its constants". */
    private static void parametersAndFields(Class<?> each) {
        List<Executable> all = new ArrayList<>(List.of(each.getDeclaredMethods()));
        all.addAll(List.of(each.getDeclaredConstructors()));
        for (Executable method : all) {
            due.holds(method + " takes at most seven parameters", method.getParameterCount() <= 7);
            due.holds(method + " was written, not made by the compiler", !method.isSynthetic());
        }
        int fields = 0;
        for (Field field : each.getDeclaredFields()) {
            fields += Modifier.isStatic(field.getModifiers()) ? 0 : 1;
        }
        due.holds(each + " has at most twenty fields", fields <= 20);
    }

    /** "No library but what it lists": the constant pool of a compiled class names each method that is called in it. */
    private static void callsOf(Class<?> each) throws IOException {
        try (DataInputStream in = new DataInputStream(each.getResourceAsStream(each.getName() + ".class"))) {
            in.skipBytes(8);
            int entries = in.readUnsignedShort();
            String[] words = new String[entries];
            int[] firsts = new int[entries];
            int[] seconds = new int[entries];
            List<Integer> methods = new ArrayList<>();
            for (int i = 1; i < entries; i++) {
                int tag = in.readUnsignedByte();
                switch (tag) {
                    case 1: words[i] = in.readUTF(); break;
                    case 3: in.readInt(); break;
                    case 5: in.readLong(); i++; break;
                    case 7: firsts[i] = in.readUnsignedShort(); break;
                    case 9: case 10: case 12:
                        firsts[i] = in.readUnsignedShort();
                        seconds[i] = in.readUnsignedShort();
                        if (tag == 10) methods.add(i);
                        break;
                    default: // a text, a float, a double, a call of an interface, a lambda
                        due.is("an entry of the constant pool of " + each, 0, tag);
                        return;
                }
            }
            for (int method : methods) {
                String called = words[firsts[firsts[method]]] + "." + words[firsts[seconds[method]]];
                due.holds(called + ", called in " + each + ", is in the library that is left",
                    called.startsWith("BlockRounds") || COMPILED_LIBRARY.contains(called));
            }
        }
    }
}
