import java.lang.reflect.Method;
import java.lang.reflect.Modifier;
import java.nio.file.Files;
import java.nio.file.Path;
import java.util.Arrays;
import java.util.regex.Matcher;
import java.util.regex.Pattern;

/** README.md, under "Use": its calls answer what stands behind them, and no public method is left out. */
public final class ReadmeTest {
    private static final Pattern CALL = Pattern.compile("book\\.(\\w+)\\((.*?)\\); +// (-?\\d+)");

    public static void main(String[] args) throws ReflectiveOperationException, java.io.IOException {
        String use = Files.readString(Path.of("README.md")).split("## Use")[1].split("## Tests")[0];
        calls(use);
        names(use);
        Checks.end("ReadmeTest");
    }

    private static void calls(String use) throws ReflectiveOperationException {
        BackToTheFirstStone book = new BackToTheFirstStone();
        Matcher call = CALL.matcher(use);
        int calls = 0;
        while (call.find()) {
            Object answer = methodOf(call.group(1)).invoke(book, numbersOf(call.group(2)));
            Checks.is(call.group(), ((Number) answer).longValue(), Long.parseLong(call.group(3)));
            calls++;
        }
        Checks.is("each line of the example has its answer", calls, use.split("book\\.").length - 1);
    }

    private static void names(String use) {
        for (Method one : BackToTheFirstStone.class.getDeclaredMethods()) {
            boolean named = use.contains("`" + one.getName() + "`");
            Checks.is(one.getName() + " is named", named || !Modifier.isPublic(one.getModifiers()) ? 1 : 0, 1);
        }
    }

    private static Method methodOf(String name) {
        for (Method one : BackToTheFirstStone.class.getDeclaredMethods()) {
            if (one.getName().equals(name)) return one;
        }
        throw new IllegalArgumentException("no method " + name);
    }

    private static Object[] numbersOf(String arguments) {
        String[] texts = arguments.isEmpty() ? new String[0] : arguments.split(", ");
        return Arrays.stream(texts).map(Integer::valueOf).toArray();
    }
}
