import java.io.IOException;
import java.lang.reflect.Method;
import java.nio.file.Files;
import java.nio.file.Path;
import java.util.regex.Matcher;
import java.util.regex.Pattern;

/** What README.md says that a new object answers of its example is what one answers. */
final class ReadmeTest {
    private static final Checks C = new Checks();
    private static final Pattern TEXT = Pattern.compile("```text\n(.*?)```", Pattern.DOTALL);
    private static final Pattern CALL = Pattern.compile("^\\| `(\\w+)\\((.*?)\\)` \\| `(.*?)` \\|", Pattern.MULTILINE);

    public static void main(String[] args) throws IOException, ReflectiveOperationException {
        String readme = Files.readString(Path.of("README.md"));
        Matcher text = TEXT.matcher(readme);
        C.due("README.md has an example", text.find(), true);
        SafeCode x = new SafeCode();
        Checks.text(x, text.group(1));
        Matcher call = CALL.matcher(readme);
        int calls = 0;
        while (call.find()) {
            C.due(call.group(1) + "(" + call.group(2) + ")", answer(x, call.group(1), call.group(2)), number(call.group(3)));
            calls++;
        }
        C.due("README.md tells many calls", calls > 20, true);
        C.close();
    }

    private static long answer(SafeCode x, String name, String arguments) throws ReflectiveOperationException {
        String[] told = arguments.isEmpty() ? new String[0] : arguments.split(", ");
        for (Method method : SafeCode.class.getMethods()) {
            if (method.getName().equals(name) && method.getParameterCount() == told.length) {
                Object[] given = new Object[told.length];
                for (int k = 0; k < told.length; k++) {
                    given[k] = Integer.parseInt(told[k]);
                }
                return number(String.valueOf(method.invoke(x, given)));
            }
        }
        throw new NoSuchMethodException(name);
    }

    /** A boolean counts 1 or 0. */
    private static long number(String answer) {
        return answer.equals("true") ? 1 : answer.equals("false") ? 0 : Long.parseLong(answer);
    }
}
