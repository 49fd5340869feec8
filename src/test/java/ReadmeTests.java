import java.io.IOException;
import java.lang.reflect.Method;
import java.nio.file.Files;
import java.nio.file.Path;
import java.util.ArrayList;
import java.util.List;
import java.util.regex.Matcher;
import java.util.regex.Pattern;

/** README.md's examples: each of their calls must answer the number that stands behind it. */
public final class ReadmeTests {
    private static final Due due = new Due("ReadmeTests");
    private static final Pattern CALL = Pattern.compile("x\\.(\\w+)\\(([-\\d, ]*)\\); +// (-?\\d+)\\b.*");
    private static final Pattern PUT = Pattern.compile("put\\(x, \"([^\"]*)\"\\);");

    public static void main(String[] args) throws IOException, ReflectiveOperationException {
        SoleReader x = null;
        for (String line : examples(Files.readString(Path.of("README.md")))) {
            Matcher call = CALL.matcher(line);
            Matcher put = PUT.matcher(line);
            if (line.equals("SoleReader x = new SoleReader();")) {
                x = new SoleReader();
            } else if (put.matches()) {
                due.holds(line, Due.put(x, put.group(1)));
            } else {
                due.holds("it can be read: " + line, call.matches());
                due.is(line, asked(x, call.group(1), call.group(2)), Long.parseLong(call.group(3)));
            }
        }
        due.close();
    }

    /** The lines of the blocks that make an object. */
    private static List<String> examples(String readme) {
        List<String> lines = new ArrayList<>();
        Matcher block = Pattern.compile("(?s)```java\n(.*?)```").matcher(readme);
        while (block.find()) {
            if (block.group(1).startsWith("SoleReader x")) {
                lines.addAll(List.of(block.group(1).split("\n")));
            }
        }
        return lines;
    }

    private static long asked(SoleReader x, String name, String given) throws ReflectiveOperationException {
        String[] told = given.isEmpty() ? new String[0] : given.split(", ");
        Object[] numbers = new Object[told.length];
        for (int i = 0; i < told.length; i++) {
            numbers[i] = Integer.valueOf(told[i]);
        }
        for (Method m : SoleReader.class.getMethods()) {
            if (m.getName().equals(name) && m.getParameterCount() == told.length) {
                return ((Number) m.invoke(x, numbers)).longValue();
            }
        }
        throw new IllegalStateException("no such call: " + name);
    }
}
