import java.io.IOException;
import java.lang.reflect.Method;
import java.lang.reflect.Modifier;
import java.nio.file.Files;
import java.nio.file.Path;
import java.util.regex.Matcher;
import java.util.regex.Pattern;

/** README.md says how to use the class: each answer told there is the one that is given; run from the project's folder. */
public final class ReadmeTest {
    private static final Pattern TEXT = Pattern.compile("String text = \"([^\"]*)\";");
    private static final Pattern CALL = Pattern.compile("(?m)^x\\.(\\w+)\\(([-0-9, ]*)\\); +// (-?\\d+): ");

    public static void main(String[] args) throws IOException, ReflectiveOperationException {
        String readme = Files.readString(Path.of("README.md"));
        Matcher text = TEXT.matcher(readme);
        Due.is("README.md tells a TEXT", text.find() ? 1 : 0, 1);
        NeedOnce x = Due.with(text.group(1));
        int calls = 0;
        for (Matcher call = CALL.matcher(readme); call.find(); calls++) {
            Due.is(call.group(), answer(x, call.group(1), call.group(2)), Long.parseLong(call.group(3)));
        }
        Due.is("README.md tells answers of calls: above 20", calls > 20 ? 1 : 0, 1);
        Due.is("calls of the example that are not asked", callsTold(readme) - calls, 0);
        everyCallIsNamed(readme);
        Due.end();
    }

    private static long answer(NeedOnce x, String name, String numbers) throws ReflectiveOperationException {
        for (Method method : NeedOnce.class.getMethods()) {
            if (!method.getName().equals(name) || method.getDeclaringClass() != NeedOnce.class) continue;
            String[] told = numbers.isBlank() ? new String[0] : numbers.split(", *");
            Object[] given = new Object[told.length];
            for (int k = 0; k < told.length; k++) given[k] = Integer.valueOf(told[k].trim());
            return ((Number) method.invoke(x, given)).longValue();
        }
        return NeedOnce.LOST;
    }

    /** The two calls that put the TEXT into its SHEET and take it are made by Due.with. */
    private static int callsTold(String readme) {
        return (int) readme.lines().filter(line -> line.startsWith("x.") && !line.contains("text.")).count();
    }

    private static void everyCallIsNamed(String readme) {
        for (Method method : NeedOnce.class.getDeclaredMethods()) {
            if (!Modifier.isPublic(method.getModifiers())) continue;
            String name = "`" + method.getName() + "`";
            Due.is("README.md names " + name, readme.contains(name) ? 1 : 0, 1);
        }
    }
}
