import java.io.IOException;
import java.lang.reflect.Method;
import java.nio.file.Files;
import java.nio.file.Path;
import java.util.regex.Matcher;
import java.util.regex.Pattern;

/** The calls in README.md answer what it says there; a call without an answer beside it is one that is taken. */
public final class ReadmeTest {
    private static final Pattern CALL = Pattern.compile("x\\.(\\w+)\\(([^)]*)\\);(?:\\s*//\\s*(.*))?");
    private static final Pattern ANSWER = Pattern.compile("(-?\\d+)\\b.*");
    private static final String FIRST = "PatchedMachine x = new PatchedMachine();";

    public static void main(String[] args) throws IOException, ReflectiveOperationException {
        Due due = new Due();
        PatchedMachine x = null;
        boolean isCode = false;
        for (String line : Files.readAllLines(Path.of("README.md"))) {
            if (line.startsWith("```")) {
                isCode = line.equals("```java");
            } else if (isCode && line.equals(FIRST)) {
                x = new PatchedMachine();
            } else if (isCode) {
                Matcher call = CALL.matcher(line);
                due.is(line + " is a call", true, x != null && call.matches());
                make(due, x, call);
            }
        }
        due.is("the README makes a machine", true, x != null);
        due.end();
    }

    private static void make(Due due, PatchedMachine x, Matcher call)
            throws ReflectiveOperationException {
        if (x == null || !call.matches()) {
            return;
        }
        String[] words = call.group(2).isEmpty() ? new String[0] : call.group(2).split(",\\s*");
        Class<?>[] types = new Class<?>[words.length];
        Object[] values = new Object[words.length];
        for (int i = 0; i < words.length; i++) {
            types[i] = int.class;
            values[i] = Integer.parseInt(words[i]);
        }
        Method method = PatchedMachine.class.getMethod(call.group(1), types);
        Object answer = method.invoke(x, values);
        if (answer instanceof Boolean) {
            due.is(call.group(), true, (Boolean) answer);
            return;
        }
        Matcher said = ANSWER.matcher(call.group(3) == null ? "" : call.group(3));
        due.is(call.group() + " has its answer beside it", true, said.matches());
        if (said.matches()) {
            due.is(call.group(), Integer.parseInt(said.group(1)), (Integer) answer);
        }
    }
}
