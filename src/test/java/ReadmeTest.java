import java.lang.reflect.InvocationTargetException;
import java.lang.reflect.Method;
import java.lang.reflect.Modifier;
import java.nio.charset.StandardCharsets;
import java.nio.file.Files;
import java.nio.file.Path;
import java.util.regex.Matcher;
import java.util.regex.Pattern;

/** What README.md says of the class holds; run from the project's root. */
public final class ReadmeTest {
    private static final Pattern EXAMPLE = Pattern.compile("(?m)^x\\.(\\w+)\\((.*)\\); *// (.+)$");

    public static void main(String[] args) throws Exception {
        String readme = Files.readString(Path.of("README.md"), StandardCharsets.UTF_8);
        example(readme);
        everyCallIsTold(readme);
        Check.end();
    }

    private static void example(String readme) throws Exception {
        TwoForOne x = new TwoForOne();
        Matcher line = EXAMPLE.matcher(readme);
        int lines = 0;
        while (line.find()) {
            String numbers = line.group(2);
            String got = answer(x, line.group(1), numbers.isEmpty() ? new String[0] : numbers.split(", *"));
            Check.due(line.group(), got, line.group(3));
            lines++;
        }
        Check.due("the example is there", lines > 10, true);
    }

    private static String answer(TwoForOne x, String name, String[] numbers) throws Exception {
        Method call = call(name);
        Object[] arguments = new Object[numbers.length];
        for (int i = 0; i < numbers.length; i++) {
            arguments[i] = Integer.valueOf(numbers[i]);
        }
        try {
            return String.valueOf(call.invoke(x, arguments));
        } catch (InvocationTargetException e) {
            return "throws " + e.getCause().getClass().getSimpleName();
        }
    }

    private static Method call(String name) {
        for (Method method : TwoForOne.class.getDeclaredMethods()) {
            if (Modifier.isPublic(method.getModifiers()) && method.getName().equals(name)) {
                return method;
            }
        }
        throw new IllegalStateException("no such call: " + name);
    }

    /** Each has a row of its own, which names what the call declares and no other exception. */
    private static void everyCallIsTold(String readme) {
        for (Method method : TwoForOne.class.getDeclaredMethods()) {
            if (!Modifier.isPublic(method.getModifiers())) {
                continue;
            }
            Matcher row = Pattern.compile("(?m)^\\| `" + method.getName() + "\\((.*?)\\)` \\|.*$").matcher(readme);
            boolean told = row.find();
            Check.due("a row of " + method.getName(), told, true);
            if (!told) {
                continue;
            }
            int names = row.group(1).isEmpty() ? 0 : row.group(1).split(", ").length;
            Check.due("arguments of " + method.getName(), names, method.getParameterCount());
            for (String thrown : new String[] {"NoSuchElementException", "IllegalArgumentException"}) {
                boolean declared = java.util.Arrays.stream(method.getExceptionTypes()).anyMatch(e -> e.getSimpleName().equals(thrown));
                Check.due(method.getName() + " throws " + thrown, row.group().contains(thrown), declared);
            }
        }
    }
}
