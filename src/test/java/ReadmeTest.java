import java.io.IOException;
import java.lang.reflect.InvocationTargetException;
import java.lang.reflect.Method;
import java.lang.reflect.Modifier;
import java.nio.file.Files;
import java.nio.file.Path;
import java.util.regex.Matcher;
import java.util.regex.Pattern;

/** The examples of README.md: each call there is made, its answer held against the one told behind it. */
public final class ReadmeTest {
    private static final Pattern CALL = Pattern.compile("night\\.(\\w+)\\(([^)]*)\\); *// (-?\\d+)\\b.*");
    private static final Pattern TEXT = Pattern.compile("feed\\(night, \"([^\"]*)\"\\);");
    private static final Trial t = new Trial("ReadmeTest");

    public static void main(String[] args) throws IOException, ReflectiveOperationException {
        String page = Files.readString(Path.of("README.md"));
        examples(page.split("\n"));
        namesAll(page);
        t.end();
    }

    private static void examples(String[] lines) throws ReflectiveOperationException {
        NightColander night = null;
        int made = 0;
        for (String line : lines) {
            Matcher call = CALL.matcher(line);
            Matcher text = TEXT.matcher(line);
            if (line.startsWith("NightColander night")) {
                night = new NightColander();
            } else if (text.matches()) {
                Trial.feed(night, text.group(1));
            } else if (call.matches()) {
                made++;
                t.due(line, answer(night, call.group(1), call.group(2)), Long.parseLong(call.group(3)));
            } else {
                t.due("an answer is told: " + line, line.startsWith("night.") ? 1 : 0, 0);
            }
        }
        t.due("calls were found", made > 40 ? 1 : 0, 1);
    }

    private static long answer(NightColander night, String name, String numbers) throws ReflectiveOperationException {
        String[] told = numbers.isEmpty() ? new String[0] : numbers.split(", ");
        Object[] given = new Object[told.length];
        for (int i = 0; i < told.length; i++) {
            given[i] = Integer.decode(told[i]);
        }
        for (Method m : NightColander.class.getMethods()) {
            if (m.getName().equals(name) && m.getParameterCount() == given.length) {
                try {
                    return ((Number) m.invoke(night, given)).longValue();
                } catch (InvocationTargetException e) {
                    t.due(name + " threw " + e.getCause(), 1, 0);
                }
            }
        }
        return Long.MIN_VALUE;
    }

    private static void namesAll(String page) {
        for (Method m : NightColander.class.getDeclaredMethods()) {
            if (Modifier.isPublic(m.getModifiers())) {
                boolean named = page.contains("`" + m.getName()) || page.contains("night." + m.getName() + "(");
                t.due("the page names " + m.getName(), named ? 1 : 0, 1);
            }
        }
    }
}
