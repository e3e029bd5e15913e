import java.io.IOException;
import java.lang.reflect.Method;
import java.lang.reflect.Modifier;
import java.nio.file.Files;
import java.nio.file.Path;
import java.util.Arrays;
import java.util.TreeSet;
import java.util.regex.Matcher;
import java.util.regex.Pattern;

/** README.md's example, line by line: each call answers what stands behind it, and no call of the face is left out. */
public final class ReadmeTest {
    private static final String MADE = "EditFinder x = new EditFinder();";
    private static final Pattern BLOCK = Pattern.compile("(?s)```java\n(.*?)```");
    private static final Pattern CALL = Pattern.compile("x\\.(\\w+)\\((.*?)\\); +// (-?\\d+): .+");

    public static void main(String[] args) throws IOException, ReflectiveOperationException {
        TreeSet<String> shown = new TreeSet<>();
        Matcher block = BLOCK.matcher(Files.readString(Path.of("README.md")));
        while (block.find()) {
            runExample(block.group(1), shown);
        }
        for (Method method : EditFinder.class.getDeclaredMethods()) {
            if (Modifier.isPublic(method.getModifiers())) {
                Check.isTrue("README.md shows " + method.getName(), shown.contains(method.getName()));
            }
        }
        Check.finish("ReadmeTest");
    }

    private static void runExample(String example, TreeSet<String> shown) throws ReflectiveOperationException {
        EditFinder x = new EditFinder();
        for (String line : example.split("\n")) {
            Matcher call = CALL.matcher(line);
            if (call.matches()) {
                shown.add(call.group(1));
                Check.due(line, answer(x, call.group(1), call.group(2)), Long.parseLong(call.group(3)));
            } else {
                Check.isTrue("a call and its answer: " + line, line.isEmpty() || line.equals(MADE));
            }
        }
    }

    private static long answer(EditFinder x, String name, String told) throws ReflectiveOperationException {
        Method method = Arrays.stream(EditFinder.class.getMethods())
            .filter(m -> m.getName().equals(name)).findFirst().orElseThrow();
        String[] words = told.isEmpty() ? new String[0] : told.split(", ");
        Object[] values = new Object[words.length];
        for (int i = 0; i < words.length; i++) {
            values[i] = value(words[i], method.getParameterTypes()[i]);
        }
        return (int) method.invoke(x, values);
    }

    private static Object value(String word, Class<?> type) {
        if (type == boolean.class) {
            return word.equals("true");
        }
        if (type == long.class) {
            return Long.decode(word.replace("L", ""));
        }
        return Integer.decode(word);
    }
}
