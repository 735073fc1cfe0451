import java.io.IOException;
import java.lang.reflect.Method;
import java.nio.file.Files;
import java.nio.file.Path;
import java.util.regex.Matcher;
import java.util.regex.Pattern;

/** The examples of README.md answer what their comments say, and use no call that is not there. */
public final class ReadmeTests {
    private static final Pattern CALL = Pattern.compile("s\\.(\\w+)\\(([^)]*)\\); *// ([^: ]+): .*");
    private static final String MADE = "SplitSlices s = new SplitSlices();";

    public static void main(String[] args) throws IOException, ReflectiveOperationException {
        String text = Files.readString(Path.of(args.length > 0 ? args[0] : ".", "README.md"));
        int wrong = 0;
        int calls = 0;
        boolean inCode = false;
        SplitSlices s = null;
        for (String line : text.split("\n")) {
            if (line.startsWith("```")) {
                inCode = line.equals("```java");
                s = null;
            } else if (inCode && line.equals(MADE)) {
                s = new SplitSlices();
            } else if (inCode) {
                calls++;
                Matcher call = CALL.matcher(line);
                String got = s != null && call.matches() ? answer(s, call.group(1), call.group(2)) : "nothing that can be read";
                if (!call.matches() || !got.equals(call.group(3))) {
                    wrong++;
                    System.out.println("README: " + line + " answered " + got);
                }
            }
        }
        System.out.println(wrong == 0 ? "README: " + calls + " answers as due" : "README: " + wrong + " answers are not as due");
        if (wrong != 0 || calls == 0) {
            System.exit(1);
        }
    }

    private static String answer(SplitSlices s, String name, String arguments) throws ReflectiveOperationException {
        String[] parts = arguments.isEmpty() ? new String[0] : arguments.split(", ");
        Object[] numbers = new Object[parts.length];
        for (int i = 0; i < parts.length; i++) {
            numbers[i] = Integer.decode(parts[i]);
        }
        for (Method m : SplitSlices.class.getMethods()) {
            if (m.getName().equals(name) && m.getParameterCount() == numbers.length) {
                return String.valueOf(m.invoke(s, numbers));
            }
        }
        return "no such call";
    }
}
