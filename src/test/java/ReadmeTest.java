import java.io.IOException;
import java.lang.reflect.Method;
import java.lang.reflect.Modifier;
import java.nio.file.Files;
import java.nio.file.Path;
import java.util.HashMap;
import java.util.Map;
import java.util.regex.Matcher;
import java.util.regex.Pattern;

/** README.md tells of each method of the face, and the calls of its example answer what stands behind them. */
public final class ReadmeTest {
    private static final Pattern LINE =
            Pattern.compile("(?:int (\\w+) = )?club\\.(\\w+)\\(([^)]*)\\); +// (-?\\w+)(?::.*)?");

    private final Due due = new Due("ReadmeTest");
    private final Cablecourt club = new Cablecourt();
    private final Map<String, Integer> numbers = new HashMap<>();

    public static void main(String[] args) throws IOException, ReflectiveOperationException {
        ReadmeTest test = new ReadmeTest();
        String text = Files.readString(Path.of("README.md"));
        test.example(text);
        test.methods(text);
        test.due.end();
    }

    private void example(String text) throws ReflectiveOperationException {
        int begin = text.indexOf("```java\n");
        int end = text.indexOf("```", begin + 3);
        due.is("there is an example", begin >= 0 && end > begin, true);
        String[] lines = text.substring(begin, end).split("\n");
        due.is("it begins with a new club", lines[1].equals("Cablecourt club = new Cablecourt();"), true);
        for (int i = 2; i < lines.length; i++) {
            Matcher line = LINE.matcher(lines[i]);
            if (!line.matches()) {
                due.tell("no call with its answer: " + lines[i]);
                continue;
            }
            String got = String.valueOf(call(line.group(2), line.group(3)));
            due.is(lines[i] + " answered " + got, got.equals(line.group(4)), true);
            if (line.group(1) != null) {
                numbers.put(line.group(1), Integer.parseInt(got));
            }
        }
    }

    private Object call(String name, String list) throws ReflectiveOperationException {
        String[] words = list.isEmpty() ? new String[0] : list.split(", ");
        Class<?>[] types = new Class<?>[words.length];
        Object[] values = new Object[words.length];
        for (int i = 0; i < words.length; i++) {
            types[i] = int.class;
            Integer number = numbers.get(words[i]);
            values[i] = number != null ? number : Integer.valueOf(words[i]);
        }
        return Cablecourt.class.getMethod(name, types).invoke(club, values);
    }

    private void methods(String text) {
        for (Method m : Cablecourt.class.getDeclaredMethods()) {
            if (Modifier.isPublic(m.getModifiers())) {
                due.is("it tells of " + m.getName(), text.contains("`" + m.getName() + "("), true);
            }
        }
    }
}
