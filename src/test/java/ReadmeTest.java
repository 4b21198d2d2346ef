import java.io.IOException;
import java.lang.reflect.Method;
import java.nio.file.Files;
import java.nio.file.Path;
import java.util.HashSet;
import java.util.Set;
import java.util.regex.Matcher;
import java.util.regex.Pattern;

/** What README.md shows of the class is true: each call of its example answers as it says, and none is missing. */
public final class ReadmeTest {
    private static final Check CHECK = new Check("ReadmeTest");
    private static final Pattern CALL = Pattern.compile("(?m)^x\\.(\\w+)\\(([-\\d, ]*)\\); +// (-?\\d+)");

    private ReadmeTest() { }

    public static void main(String[] args) throws IOException, ReflectiveOperationException {
        Matcher calls = CALL.matcher(Files.readString(Path.of("README.md")));
        RoadWorks x = new RoadWorks();
        Set<String> shown = new HashSet<>();
        CHECK.part("README.md");
        while (calls.find()) {
            Method method = method(calls.group(1));
            String call = calls.group(1) + "(" + calls.group(2) + ")";
            CHECK.due(call, (int) method.invoke(x, numbers(calls.group(2))), Long.parseLong(calls.group(3)));
            shown.add(calls.group(1));
        }
        CHECK.due("methods that README.md shows", shown.size(), 22);
        CHECK.end();
    }

    private static Method method(String name) throws NoSuchMethodException {
        for (Method method : RoadWorks.class.getDeclaredMethods()) {
            if (method.getName().equals(name)) return method;
        }
        throw new NoSuchMethodException(name);
    }

    private static Object[] numbers(String text) {
        if (text.isEmpty()) return new Object[0];
        String[] parts = text.split(", ");
        Object[] numbers = new Object[parts.length];
        for (int i = 0; i < parts.length; i++) numbers[i] = Integer.parseInt(parts[i]);
        return numbers;
    }
}
