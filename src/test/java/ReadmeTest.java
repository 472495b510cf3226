import java.lang.reflect.Method;
import java.nio.file.Files;
import java.nio.file.Path;
import java.util.regex.Matcher;
import java.util.regex.Pattern;

/** The example of README.md answers as its comments tell. */
public final class ReadmeTest {
    private static final Pattern TEXT = Pattern.compile("for \\(char c : \"(.+)\"\\.toCharArray\\(\\)\\) \\{");
    private static final Pattern CALL = Pattern.compile("counter\\.(\\w+)\\((.*)\\); +// (-?\\d+(?:\\.\\d+)?): .*");
    private static final int LEAST_CALLS = 18;

    public static void main(String[] args) throws Exception {
        Due due = new Due();
        due.promise("README.md");
        CarpetCounter counter = new CarpetCounter();
        int calls = 0;
        for (String line : Files.readAllLines(Path.of("README.md"))) {
            Matcher text = TEXT.matcher(line);
            Matcher call = CALL.matcher(line);
            if (text.matches()) {
                Due.text(counter, text.group(1));
            } else if (call.matches()) {
                calls++;
                double want = Double.parseDouble(call.group(3));
                due.isDouble(want, answer(counter, call.group(1), call.group(2)), line);
            }
        }
        due.is(1, calls >= LEAST_CALLS ? 1 : 0, "the number of calls, " + calls + ",");
        due.end();
    }

    private static double answer(CarpetCounter counter, String name, String list) throws Exception {
        String[] words = list.isEmpty() ? new String[0] : list.split(", ");
        Object[] values = new Object[words.length];
        for (int i = 0; i < words.length; i++) {
            values[i] = Integer.parseInt(words[i]);
        }
        for (Method m : CarpetCounter.class.getMethods()) {
            if (m.getName().equals(name)) {
                return ((Number) m.invoke(counter, values)).doubleValue();
            }
        }
        throw new IllegalStateException("no such method: " + name);
    }
}
