import java.io.IOException;
import java.lang.reflect.Method;
import java.nio.file.Files;
import java.nio.file.Path;
import java.util.HashSet;
import java.util.Set;
import java.util.regex.Matcher;
import java.util.regex.Pattern;

/** README.md: its example answers as it says there, it names each call of the face, and each test. */
public final class ReadmeTest {
    private static final Due due = new Due("ReadmeTest");
    /** A call of the example, its arguments, and the answer behind it. */
    private static final Pattern CALL = Pattern.compile("(?m)^x\\.(\\w+)\\(([^()]*)\\); +// (\\S+?)(?:[:,].*)?$");

    public static void main(String[] args) throws IOException, ReflectiveOperationException {
        String text = Files.readString(Path.of("README.md"));
        example(text);
        calls(text);
        tests(text);
        due.end();
    }

    private static void example(String text) throws ReflectiveOperationException {
        BlockRounds x = new BlockRounds();
        int lines = 0;
        Matcher matcher = CALL.matcher(text);
        while (matcher.find()) {
            lines++;
            due.is(matcher.group(), answerOf(matcher.group(3)), answer(x, matcher.group(1), matcher.group(2)));
        }
        due.is("calls of the example that were tried", Pattern.compile("(?m)^x\\.").matcher(text).results().count(), lines);
        due.holds("there is an example", lines > 0);
    }

    private static long answerOf(String told) throws ReflectiveOperationException {
        return Character.isLetter(told.charAt(0)) ? BlockRounds.class.getField(told).getInt(null) : Long.parseLong(told);
    }

    private static long answer(BlockRounds x, String name, String arguments) throws ReflectiveOperationException {
        String[] told = arguments.isEmpty() ? new String[0] : arguments.split(", ");
        for (Method method : BlockRounds.class.getMethods()) {
            if (method.getName().equals(name) && method.getParameterCount() == told.length) {
                Object[] given = new Object[told.length];
                for (int i = 0; i < told.length; i++) {
                    long value = argument(told[i]);
                    given[i] = method.getParameterTypes()[i] == long.class ? (Object) value : (Object) (int) value;
                }
                return ((Number) method.invoke(x, given)).longValue();
            }
        }
        throw new NoSuchMethodException(name);
    }

    /** A number, a constant of the class, or a character, as the example writes them. */
    private static long argument(String told) throws ReflectiveOperationException {
        if (told.startsWith("BlockRounds.")) {
            return BlockRounds.class.getField(told.substring(12)).getInt(null);
        }
        return told.startsWith("0x") ? Long.decode(told.replace("L", "")) : Long.parseLong(told);
    }

    private static void calls(String text) {
        Set<String> told = new HashSet<>();
        Matcher matcher = Pattern.compile("`(\\w+)\\(").matcher(text);
        while (matcher.find()) {
            told.add(matcher.group(1));
        }
        for (Method method : BlockRounds.class.getDeclaredMethods()) {
            if (java.lang.reflect.Modifier.isPublic(method.getModifiers())) {
                due.holds(method.getName() + " is told of", told.contains(method.getName()));
            }
        }
    }

    private static void tests(String text) throws IOException {
        try (var files = Files.list(Path.of("src/test/java"))) {
            for (Path file : (Iterable<Path>) files.sorted()::iterator) {
                String name = file.getFileName().toString().replace(".java", "");
                if (name.endsWith("Test")) {
                    due.holds(name + " is told of", text.contains("`" + name + "`"));
                }
            }
        }
    }
}
