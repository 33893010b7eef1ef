import java.lang.reflect.Method;
import java.nio.file.Files;
import java.nio.file.Path;
import java.util.regex.Matcher;
import java.util.regex.Pattern;

/** README.md's example, call by call: each answers what stands behind it there. */
public final class ReadmeTest {
    private static final Path README = Path.of("README.md");
    private static final Pattern CALL = Pattern.compile("x\\.(\\w+)\\(([^)]*)\\);(?: +// (-?\\d+)\\b.*)?");

    public static void main(String[] args) throws Exception {
        String text = Files.readString(README);
        int from = text.indexOf("```java\n");
        int to = text.indexOf("```", from + 3);
        Check.holds("README.md has an example", from >= 0 && to > from);
        CellarPump x = new CellarPump();
        int asked = 0;
        for (String line : text.substring(from, to).split("\n")) {
            Matcher call = CALL.matcher(line);
            boolean isOther = line.isBlank() || line.startsWith("```") || line.startsWith("//")
                || line.equals("CellarPump x = new CellarPump();");
            Check.holds("a line that can't be asked: " + line, isOther || call.matches());
            if (call.matches()) {
                Check.holds("no answer is told: " + line, call.group(3) != null);
                Check.due(line, answer(x, call.group(1), call.group(2)), Long.parseLong(call.group(3)));
                asked++;
            }
        }
        Check.holds("README.md's example has calls", asked > 20);
        Check.finish();
    }

    private static int answer(CellarPump x, String name, String told) throws Exception {
        String[] parts = told.isEmpty() ? new String[0] : told.split(", ");
        for (Method m : CellarPump.class.getMethods()) {
            if (m.getName().equals(name) && m.getParameterCount() == parts.length) {
                Object[] values = new Object[parts.length];
                for (int i = 0; i < parts.length; i++) {
                    boolean isFlag = m.getParameterTypes()[i] == boolean.class;
                    values[i] = isFlag ? (Object) Boolean.valueOf(parts[i]) : (Object) Integer.decode(parts[i]);
                }
                return (Integer) m.invoke(x, values);
            }
        }
        throw new IllegalStateException("no call " + name);
    }
}
