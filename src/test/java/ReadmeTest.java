import java.io.IOException;
import java.lang.reflect.Method;
import java.nio.charset.StandardCharsets;
import java.nio.file.Files;
import java.nio.file.Path;
import java.util.Arrays;
import java.util.regex.Matcher;
import java.util.regex.Pattern;

/** The examples of README.md, run as they stand there: each call answers what its comment begins with. */
public final class ReadmeTest {
    private static final Pattern CALL = Pattern.compile("x\\.(\\w+)\\(([-\\d, ]+)\\); +// (true|false|-?\\d+)\\b.*");
    private static final String NEW_OBJECT = "WireHosts x = new WireHosts();";
    private static final int EXAMPLES = 2;

    private static final Due due = new Due();

    public static void main(String[] args) throws IOException, ReflectiveOperationException {
        WireHosts x = null;
        int examples = 0;
        boolean inExample = false;
        for (String line : Files.readAllLines(Path.of("README.md"), StandardCharsets.UTF_8)) {
            if (line.startsWith("```")) {
                inExample = line.equals("```java");
            } else if (inExample && line.equals(NEW_OBJECT)) {
                x = new WireHosts();
                examples++;
            } else if (inExample) {
                callOf(line, x);
            }
        }
        due.is("examples in README.md", examples, EXAMPLES);
        due.end();
    }

    private static void callOf(String line, WireHosts x) throws ReflectiveOperationException {
        Matcher call = CALL.matcher(line);
        boolean isCall = call.matches();
        due.yes("a call with its answer: " + line, isCall);
        if (isCall) {
            Object[] values = Arrays.stream(call.group(2).split(", ")).map(Integer::valueOf).toArray();
            Class<?>[] types = new Class<?>[values.length];
            Arrays.fill(types, int.class);
            Method method = WireHosts.class.getMethod(call.group(1), types);
            due.same(line, String.valueOf(method.invoke(x, values)), call.group(3));
        }
    }
}
