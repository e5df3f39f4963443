import java.io.IOException;
import java.lang.reflect.Method;
import java.nio.file.Files;
import java.nio.file.Path;
import java.util.HashMap;
import java.util.Map;
import java.util.regex.Matcher;
import java.util.regex.Pattern;

/** The example in README.md is run line by line: where a comment begins with a number, that is due. */
public final class ReadmeTest {
    private static final Pattern BLOCK = Pattern.compile("(?s)```java\n(.*?)```");
    private static final Pattern CALL =
            Pattern.compile("(?:int (\\w+) = )?e\\.(\\w+)\\((.*?)\\);(?: *// *(?:(-?\\d+)\\b)?.*)?");
    private static final String MADE = "RuleEngine e = new RuleEngine();";

    private final RuleEngine engine = new RuleEngine();
    private final Map<String, Integer> known = new HashMap<>();
    private int due = 0;
    private int wrong = 0;

    public static void main(String[] args) throws ReflectiveOperationException, IOException {
        String readme = Files.readString(Path.of("README.md"));
        ReadmeTest test = new ReadmeTest();
        Matcher block = BLOCK.matcher(readme);
        if (block.find()) {
            for (String line : block.group(1).split("\n")) {
                test.line(line.strip());
            }
        }
        for (Method m : RuleEngine.class.getMethods()) {
            if (m.getDeclaringClass() == RuleEngine.class && !readme.contains("`" + m.getName() + "(")) {
                test.tell(m.getName() + " is not told");
            }
        }
        System.out.println(test.due + " answers of the example, " + test.wrong + " things not as due");
        if (test.wrong != 0 || test.due == 0) {
            System.exit(1);
        }
    }

    private void tell(String what) {
        wrong++;
        System.out.println(what);
    }

    private void line(String line) throws ReflectiveOperationException {
        Matcher call = CALL.matcher(line);
        if (!call.matches()) {
            if (!line.isEmpty() && !line.equals(MADE)) {
                tell("no call: " + line);
            }
            return;
        }
        int answer = answer(call.group(2), call.group(3).isEmpty() ? new String[0] : call.group(3).split(", "));
        if (call.group(1) != null) {
            known.put(call.group(1), answer);
        }
        if (call.group(4) != null) {
            due++;
            if (answer != Integer.parseInt(call.group(4))) {
                tell(line + " answered " + answer);
            }
        } else if (answer < 0) {
            tell(line + " was refused: " + answer);
        }
    }

    private int answer(String name, String[] written) throws ReflectiveOperationException {
        Object[] values = new Object[written.length];
        Class<?>[] types = new Class<?>[written.length];
        for (int i = 0; i < written.length; i++) {
            boolean not = written[i].equals("true") || written[i].equals("false");
            types[i] = not ? boolean.class : int.class;
            if (not) {
                values[i] = Boolean.valueOf(written[i]);
            } else {
                values[i] = known.containsKey(written[i]) ? known.get(written[i]) : Integer.valueOf(written[i]);
            }
        }
        return (Integer) RuleEngine.class.getMethod(name, types).invoke(engine, values);
    }
}
