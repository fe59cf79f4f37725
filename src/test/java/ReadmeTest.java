import java.io.IOException;
import java.lang.reflect.Method;
import java.lang.reflect.Modifier;
import java.nio.file.Files;
import java.nio.file.Path;
import java.util.Arrays;
import java.util.regex.Matcher;
import java.util.regex.Pattern;

/** README.md's example, made call by call as it stands there, and that README.md tells of every call. */
public final class ReadmeTest {
    private static final Pattern TEXT = Pattern.compile("for \\(char letter : \"([^\"]*)\"");
    private static final Pattern CALL = Pattern.compile("^shelf\\.(\\w+)\\(([-\\d, ]*)\\); *// (-?\\d+)[:,]", Pattern.MULTILINE);
    private static final Check check = new Check();

    public static void main(String[] args) throws IOException, ReflectiveOperationException {
        String readme = Files.readString(Path.of("README.md"));
        example(readme.replaceAll("(?s).*```java\n(.*?)```.*", "$1"));
        everyCall(readme);
        check.end("ReadmeTest");
    }

    private static void example(String code) throws ReflectiveOperationException {
        Matcher text = TEXT.matcher(code);
        check.isSo("the example writes a text", text.find());
        LeftAndRight shelf = Check.write(new LeftAndRight(), text.group(1));
        Matcher call = CALL.matcher(code);
        int calls = 0;
        while (call.find()) {
            check.due("README.md: " + call.group(1) + "(" + call.group(2) + ")",
                answer(shelf, call.group(1), call.group(2)), Integer.parseInt(call.group(3)));
            calls++;
        }
        check.due("lines of the example that begin with shelf.", calls, code.lines().filter(line -> line.startsWith("shelf.")).count());
        check.isSo("the example has calls", calls > 0);
    }

    private static int answer(LeftAndRight shelf, String name, String parted) throws ReflectiveOperationException {
        Object[] numbers = Arrays.stream(parted.split(", *")).filter(number -> !number.isEmpty()).map(Integer::valueOf).toArray();
        Class<?>[] types = new Class<?>[numbers.length];
        Arrays.fill(types, int.class);
        Method method = LeftAndRight.class.getMethod(name, types);
        return (Integer) method.invoke(shelf, numbers);
    }

    private static void everyCall(String readme) {
        for (Method method : LeftAndRight.class.getDeclaredMethods()) {
            if (Modifier.isPublic(method.getModifiers())) {
                Matcher told = Pattern.compile("\\| .*`" + method.getName() + "\\(([^)]*)\\)`.* \\|").matcher(readme);
                boolean found = told.find();
                check.isSo("README.md tells of " + method.getName(), found);
                int numbers = !found || told.group(1).isEmpty() ? 0 : told.group(1).split(", ").length;
                check.due("numbers that " + method.getName() + " takes by README.md", numbers, method.getParameterCount());
            }
        }
    }
}
