import java.lang.reflect.Method;
import java.lang.reflect.Modifier;
import java.nio.file.Files;
import java.nio.file.Path;
import java.util.Arrays;
import java.util.regex.Matcher;
import java.util.regex.Pattern;

/** README.md: each call of its example answers what is written behind it, and no call is left out of its table. */
public final class ReadmeTest {
    private static final Pattern TEXT = Pattern.compile("String text = \"([^\"]*)\";");
    private static final Pattern CALL = Pattern.compile("(?m)^x\\.(\\w+)\\(([0-9, ]*)\\); *// (-?\\d+)\\b");

    public static void main(String[] args) throws Exception {
        String readme = Files.readString(Path.of("README.md"));
        example(readme);
        table(readme);
        Due.end();
    }

    private static void example(String readme) throws Exception {
        FeetAndRhymes x = new FeetAndRhymes();
        Matcher text = TEXT.matcher(readme);
        Due.is("there is a text", 1, text.find() ? 1 : 0);
        for (char c : text.group(1).toCharArray()) {
            x.feed(c);
        }
        int calls = 0;
        Matcher call = CALL.matcher(readme);
        while (call.find()) {
            Object[] numbers = Arrays.stream(call.group(2).split(", ")).filter(n -> !n.isEmpty())
                    .map(Integer::valueOf).toArray();
            Class<?>[] types = new Class<?>[numbers.length];
            Arrays.fill(types, int.class);
            Object got = FeetAndRhymes.class.getMethod(call.group(1), types).invoke(x, numbers);
            Due.is(call.group(), Long.parseLong(call.group(3)), ((Number) got).longValue());
            calls++;
        }
        Due.is("every line of the example that begins with x. was called",
                readme.lines().filter(l -> l.startsWith("x.")).count(), calls);
    }

    private static void table(String readme) {
        for (Method m : FeetAndRhymes.class.getDeclaredMethods()) {
            if (Modifier.isPublic(m.getModifiers())) {
                String commas = ", \\w+".repeat(Math.max(0, m.getParameterCount() - 1));
                String numbers = m.getParameterCount() == 0 ? "" : "\\w+" + commas;
                Pattern row = Pattern.compile("(?m)^\\| `" + m.getName() + "\\(" + numbers + "\\)` \\| ");
                Due.is("the table has " + m, 1, row.matcher(readme).find() ? 1 : 0);
            }
        }
    }
}
