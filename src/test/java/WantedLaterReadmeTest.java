import java.io.IOException;
import java.lang.reflect.Method;
import java.lang.reflect.Modifier;
import java.nio.file.Files;
import java.nio.file.Path;
import java.util.Arrays;
import java.util.regex.Matcher;
import java.util.regex.Pattern;

/** That README.md names every call, and that its example answers as told there. */
public final class WantedLaterReadmeTest {
    private static final Pattern CALL = Pattern.compile("(?m)^x\\.(\\w+)\\(([^)]*)\\); *// (-?\\d+):");
    private static final Due D = new Due();

    public static void main(String[] args) throws IOException, ReflectiveOperationException {
        String page = Files.readString(Path.of("README.md"));
        for (Method m : WantedLater.class.getDeclaredMethods()) {
            if (Modifier.isPublic(m.getModifiers())) {
                D.due("named: " + m.getName(), page.contains("`" + m.getName() + "(") ? 1 : 0, 1);
            }
        }
        example(page);
        typed(page);
        D.end();
    }

    private static void example(String page) throws ReflectiveOperationException {
        WantedLater x = new WantedLater();
        long lines = page.lines().filter(line -> line.startsWith("x.")).count();
        Matcher call = CALL.matcher(page);
        while (call.find()) {
            int[] numbers = call.group(2).isEmpty() ? new int[0]
                : Arrays.stream(call.group(2).split(", ")).mapToInt(Integer::parseInt).toArray();
            Class<?>[] types = new Class<?>[numbers.length];
            Arrays.fill(types, int.class);
            Object[] arguments = Arrays.stream(numbers).boxed().toArray();
            Number got = (Number) WantedLater.class.getMethod(call.group(1), types).invoke(x, arguments);
            D.due(call.group(), got.longValue(), Long.parseLong(call.group(3)));
            lines--;
        }
        D.due("lines of the example without an answer", lines, 0);
    }

    private static void typed(String page) {
        Matcher told = Pattern.compile("`type` each byte of `([^`]*)`, then `read`, which answers (\\d+)").matcher(page);
        D.due("a town is typed", told.find() ? 1 : 0, 1);
        WantedLater x = new WantedLater();
        D.due("read()", Towns.read(x, told.group(1)), Integer.parseInt(told.group(2)));
        D.due("when(0)", x.when(0), 2);
    }
}
