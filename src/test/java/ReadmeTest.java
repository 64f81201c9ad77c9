import java.io.IOException;
import java.lang.reflect.Method;
import java.lang.reflect.Modifier;
import java.nio.file.Files;
import java.nio.file.Path;
import java.util.Arrays;
import java.util.regex.Matcher;
import java.util.regex.Pattern;

/** README.md tells of every call of the class, and what its example says is so. */
public final class ReadmeTest {
    private static final Pattern CALL = Pattern.compile("post\\.(\\w+)\\(([-0-9, ]*)\\); +// (?:\"(.*)\"|(-?\\d+))");

    public static void main(String[] args) throws ReflectiveOperationException, IOException {
        String readme = Files.readString(Path.of("README.md"));
        SleepPost post = new SleepPost();
        int calls = 0;
        int fed = 0;
        Matcher call = CALL.matcher(readme);
        while (call.find()) {
            int[] numbers = numbers(call.group(2));
            boolean feeds = call.group(3) != null;
            if (feeds) {
                fed += 20;
                Check.same("the bytes of " + call.group(), Arrays.equals(numbers, Check.numbers(call.group(3))), true);
            }
            Check.same(call.group(), answer(post, call.group(1), numbers), feeds ? fed : Integer.parseInt(call.group(4)));
            calls++;
        }
        Check.same("calls of the example", calls, 6);
        for (Method m : SleepPost.class.getDeclaredMethods()) {
            boolean open = Modifier.isPublic(m.getModifiers());
            Check.same("it tells of " + m.getName(), !open || readme.contains("`" + m.getName() + "`"), true);
        }
        Check.end("ReadmeTest");
    }

    private static int[] numbers(String arguments) {
        return Arrays.stream(arguments.split(", *")).mapToInt(Integer::parseInt).toArray();
    }

    private static int answer(SleepPost post, String name, int[] numbers) throws ReflectiveOperationException {
        Class<?>[] types = new Class<?>[numbers.length];
        Arrays.fill(types, int.class);
        Object[] arguments = Arrays.stream(numbers).boxed().toArray();
        return (Integer) SleepPost.class.getMethod(name, types).invoke(post, arguments);
    }
}
