import java.io.IOException;
import java.lang.reflect.InvocationTargetException;
import java.lang.reflect.Method;
import java.lang.reflect.Modifier;
import java.nio.file.Files;
import java.nio.file.Path;
import java.util.Arrays;
import java.util.regex.Matcher;
import java.util.regex.Pattern;

/** README.md has each call of the face, and the answers that stand in it behind calls are those of the class. */
public final class ReadmeTest {
    private static final Pattern CALL = Pattern.compile("net\\.(\\w+)\\(([^)]*)\\);(?:\\s*// (true|false|-?\\d+)\\b.*)?");

    public static void main(String[] args) throws IOException, ReflectiveOperationException {
        Check check = new Check();
        String text = Files.readString(Path.of("README.md"));
        String example = text.substring(text.indexOf("```java"), text.indexOf("```\n\n"));
        askNames(check, text, example);
        TreeCounts net = new TreeCounts();
        for (String line : example.split("\n")) {
            Matcher call = CALL.matcher(line);
            if (call.matches()) {
                askCall(check, net, call);
            } else {
                check.holds("a call: " + line, line.equals("```java") || line.equals("TreeCounts net = new TreeCounts();"));
            }
        }
        check.holds("how the tests are run", text.contains("`.ci/run`"));
        check.end();
    }

    private static void askNames(Check check, String text, String example) {
        for (Method method : TreeCounts.class.getDeclaredMethods()) {
            if (Modifier.isPublic(method.getModifiers())) {
                check.holds("README.md tells " + method, text.contains("| `" + method.getName() + "("));
                check.holds("README.md shows " + method, example.contains("\nnet." + method.getName() + "("));
            }
        }
    }

    private static void askCall(Check check, TreeCounts net, Matcher call) throws ReflectiveOperationException {
        Method method = Arrays.stream(TreeCounts.class.getDeclaredMethods())
            .filter(m -> m.getName().equals(call.group(1)) && Modifier.isPublic(m.getModifiers())).findFirst().orElseThrow();
        String[] words = call.group(2).isEmpty() ? new String[0] : call.group(2).split(", ");
        Object[] values = new Object[words.length];
        for (int k = 0; k < words.length; k++) {
            if (method.getParameterTypes()[k] == long.class) {
                values[k] = Long.parseLong(words[k]);
            } else {
                values[k] = Integer.parseInt(words[k]);
            }
        }
        String due = String.valueOf(call.group(3));
        try {
            Object answer = method.invoke(net, values);
            check.holds(call.group() + " answered " + answer, due.equals(String.valueOf(answer)));
        } catch (InvocationTargetException e) {
            check.holds(call.group() + " threw " + e.getCause(), false);
        }
    }
}
