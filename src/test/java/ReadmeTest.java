import java.io.IOException;
import java.lang.reflect.Method;
import java.nio.file.Files;
import java.nio.file.Path;
import java.util.regex.Matcher;
import java.util.regex.Pattern;

/** The example of README.md: each of its calls, as it stands there, has to answer what stands behind it. */
public final class ReadmeTest {
    private static final Pattern LAND = Pattern.compile("String land = \"([^\"]*)\";.*");
    private static final Pattern CALL = Pattern.compile("post\\.(\\w+)\\((.*)\\); +// (-?\\d+):.*");
    private static final int LEAST_CALLS = 10;

    private final BlindPost post = new BlindPost();
    private String land = "";
    private int calls = 0;
    private int wrong = 0;

    /** The part of the page between the signs of an example in Java. */
    private static String example(String page) {
        int from = page.indexOf("```java\n");
        int to = page.indexOf("```\n", from + 8);
        return from < 0 || to < 0 ? "" : page.substring(from + 8, to);
    }

    private void take(String line) throws ReflectiveOperationException {
        Matcher written = LAND.matcher(line);
        Matcher called = CALL.matcher(line);
        if (written.matches()) {
            land = written.group(1);
        } else if (line.startsWith("post.put(0, i, land.charAt(i))")) {
            for (int i = 0; i < land.length(); i++) {
                post.put(0, i, land.charAt(i));
            }
        } else if (called.matches()) {
            due(line, call(called.group(1), called.group(2)), Long.parseLong(called.group(3)));
        } else if (line.startsWith("post.")) {
            wrong++;
            System.out.println("a call without an answer behind it: " + line);
        }
    }

    private long call(String name, String arguments) throws ReflectiveOperationException {
        String[] words = arguments.isEmpty() ? new String[0] : arguments.split(", ");
        Object[] numbers = new Object[words.length];
        for (int i = 0; i < words.length; i++) {
            numbers[i] = words[i].equals("land.length()") ? land.length() : Integer.parseInt(words[i]);
        }
        for (Method m : BlindPost.class.getMethods()) {
            if (m.getName().equals(name) && m.getParameterCount() == numbers.length) {
                return ((Number) m.invoke(post, numbers)).longValue();
            }
        }
        throw new NoSuchMethodException(name);
    }

    private void due(String line, long got, long want) {
        calls++;
        if (got != want) {
            wrong++;
            System.out.println(line + ": answered " + got + ", due is " + want);
        }
    }

    public static void main(String[] args) throws IOException, ReflectiveOperationException {
        ReadmeTest test = new ReadmeTest();
        for (String line : example(Files.readString(Path.of(System.getProperty("blindpost.readme")))).split("\n")) {
            test.take(line.trim());
        }
        if (test.wrong != 0 || test.calls < LEAST_CALLS) {
            System.out.println(test.wrong + " wrong of " + test.calls + " calls in README.md");
            System.exit(1);
        }
        System.out.println(test.calls + " calls of README.md answer as told there");
    }
}
