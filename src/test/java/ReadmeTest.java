import java.io.IOException;
import java.lang.reflect.InvocationTargetException;
import java.lang.reflect.Method;
import java.nio.file.Files;
import java.nio.file.Path;
import java.util.regex.Matcher;
import java.util.regex.Pattern;

/** Runs the examples of README.md, which are one run on one object, and compares what is written beside each call. */
public final class ReadmeTest {
    private static final Pattern CALL = Pattern.compile("archive\\.(\\w+)\\(([-0-9, ]*)\\); +// (.+)");
    private static final Pattern FEED = Pattern.compile("for \\(char character : \"([^\"]*)\".*archive\\.feed.*");

    public static void main(String[] args) throws IOException {
        FoldedArchive archive = new FoldedArchive();
        boolean inExample = false;
        for (String line : Files.readAllLines(Path.of("README.md"))) {
            if (line.startsWith("```")) {
                inExample = line.equals("```java");
            } else if (inExample && !line.endsWith("= new FoldedArchive();")) {
                follow(archive, line);
            }
        }
        Check.end();
    }

    private static void follow(FoldedArchive archive, String line) {
        Matcher call = CALL.matcher(line);
        Matcher feed = FEED.matcher(line);
        if (call.matches()) {
            String due = call.group(3).replaceFirst("^throws ", "throws.");
            Check.due(line, () -> answer(archive, call.group(1), call.group(2)), due);
        } else if (feed.matches()) {
            for (char sign : feed.group(1).toCharArray()) {
                archive.feed(sign);
            }
        } else {
            Check.wrong("README.md has a line that this test can't read: " + line);
        }
    }

    private static Object answer(FoldedArchive archive, String name, String given) {
        String[] numbers = given.isEmpty() ? new String[0] : given.split(", *");
        Class<?>[] types = new Class<?>[numbers.length];
        Object[] values = new Object[numbers.length];
        for (int place = 0; place < numbers.length; place++) {
            types[place] = int.class;
            values[place] = Integer.valueOf(numbers[place]);
        }
        try {
            Method method = FoldedArchive.class.getMethod(name, types);
            return method.invoke(archive, values);
        } catch (InvocationTargetException thrown) {
            if (thrown.getCause() instanceof RuntimeException) {
                throw (RuntimeException) thrown.getCause();
            }
            return thrown;
        } catch (ReflectiveOperationException thrown) {
            return thrown;
        }
    }
}
