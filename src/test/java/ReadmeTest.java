import java.io.IOException;
import java.lang.reflect.Method;
import java.lang.reflect.Modifier;
import java.nio.file.Files;
import java.nio.file.Path;
import java.util.Arrays;
import java.util.regex.Matcher;
import java.util.regex.Pattern;

/** What README.md tells of the calls, against the class; it runs in the project's folder. */
public final class ReadmeTest {
    private static final Pattern ROW = Pattern.compile("x\\.(\\w+)\\(([-0-9, ]*)\\);\\s*// (-?\\d+): ");
    private static final Checks CHECKS = new Checks("ReadmeTest");

    public static void main(String[] args) throws IOException, ReflectiveOperationException {
        String readme = Files.readString(Path.of("README.md"));
        answers(readme);
        everyCallIsTold(readme);
        everyTestIsTold(readme);
        CHECKS.end();
    }

    private static void answers(String readme) throws ReflectiveOperationException {
        EyeBoard x = new EyeBoard();
        int calls = 0;
        Matcher matcher = ROW.matcher(readme);
        while (matcher.find()) {
            calls++;
            Object[] numbers = numbers(matcher.group(2));
            Class<?>[] types = new Class<?>[numbers.length];
            Arrays.fill(types, int.class);
            Object told = EyeBoard.class.getMethod(matcher.group(1), types).invoke(x, numbers);
            CHECKS.due(matcher.group(), ((Number) told).longValue(), Long.parseLong(matcher.group(3)));
        }
        long rows = readme.lines().filter(line -> line.startsWith("x.")).count();
        CHECKS.due("calls with an answer", calls, rows);
        CHECKS.due("there are calls", calls > 0 ? 1 : 0, 1);
    }

    private static Object[] numbers(String text) {
        if (text.isBlank()) {
            return new Object[0];
        }
        return Arrays.stream(text.split(",")).map(part -> Integer.valueOf(part.trim())).toArray();
    }

    private static void everyCallIsTold(String readme) {
        for (Method method : EyeBoard.class.getDeclaredMethods()) {
            if (Modifier.isPublic(method.getModifiers())) {
                CHECKS.due(method.getName() + " has its row", readme.contains("| `" + method.getName() + "(") ? 1 : 0, 1);
            }
        }
    }

    private static void everyTestIsTold(String readme) throws IOException {
        try (var files = Files.list(Path.of("src/test/java"))) {
            files.map(file -> file.getFileName().toString().replace(".java", "")).filter(name -> name.endsWith("Test"))
                .forEach(name -> CHECKS.due(name + " has its row", readme.contains("| `" + name + "` |") ? 1 : 0, 1));
        }
    }
}
