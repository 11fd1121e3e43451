import java.io.IOException;
import java.lang.reflect.Method;
import java.lang.reflect.Modifier;
import java.nio.file.Files;
import java.nio.file.Path;
import java.util.regex.Matcher;
import java.util.regex.Pattern;

/** README.md shows calls with their answers, and names every call: what it says must be so. */
public final class ReadmeTest extends Checks {

    private static final Pattern CALL = Pattern.compile("(?m)^x\\.(\\w+)\\(([^)]*)\\); +// (-?\\w+):");

    public static void main(String[] args) throws IOException, ReflectiveOperationException {
        String text = Files.readString(Path.of(args.length > 0 ? args[0] : "README.md"));
        about("README.md");
        shownCalls(text);
        everyCallIsNamed(text);
        finish("ReadmeTest");
    }

    private static void shownCalls(String text) throws ReflectiveOperationException {
        RoundStool x = new RoundStool();
        Matcher shown = CALL.matcher(text);
        int calls = 0;
        while (shown.find()) {
            Object answer = answerOf(x, shown.group(1), shown.group(2).split(", *"));
            due(shown.group(), String.valueOf(answer), shown.group(3));
            calls++;
        }
        long lines = text.lines().filter(line -> line.startsWith("x.")).count();
        due("how many of the calls shown have an answer", calls, (int) lines);
        due("calls are shown", calls > 0, true);
    }

    private static Object answerOf(RoundStool x, String name, String[] told) throws ReflectiveOperationException {
        for (Method m : RoundStool.class.getDeclaredMethods()) {
            if (Modifier.isPublic(m.getModifiers()) && m.getName().equals(name)) {
                Class<?>[] types = m.getParameterTypes();
                Object[] values = new Object[types.length];
                for (int i = 0; i < values.length; i++) {
                    values[i] = types[i] == int.class ? (Object) Integer.decode(told[i]) : Boolean.valueOf(told[i]);
                }
                return m.invoke(x, values);
            }
        }
        return "no such call";
    }

    private static void everyCallIsNamed(String text) {
        for (Method m : RoundStool.class.getDeclaredMethods()) {
            if (Modifier.isPublic(m.getModifiers())) {
                due("names " + m.getName(), text.contains("`" + m.getName() + "`"), true);
            }
        }
    }
}
