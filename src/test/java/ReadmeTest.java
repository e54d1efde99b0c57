import java.io.IOException;
import java.lang.reflect.InvocationTargetException;
import java.lang.reflect.Method;
import java.nio.file.Files;
import java.nio.file.Path;
import java.util.ArrayList;
import java.util.Arrays;
import java.util.HashMap;
import java.util.List;
import java.util.Map;
import java.util.regex.Matcher;
import java.util.regex.Pattern;

/**
 * Plays the examples of README.md, which is looked for where the tests are run. A line of theirs
 * is a call, and the first word of its comment is the answer that is due.
 */
public final class ReadmeTest {
    private static final Pattern CALL = Pattern.compile(
            "(?:(\\w+) (\\w+) = )?board\\.(\\w+)\\(([^()]*)\\);(?:\\s+// (throws )?([-\\w]+).*)?");

    private final Carpool board = new Carpool();
    private final Map<String, Integer> variables = new HashMap<>();
    private int calls;
    private int wrong;

    public static void main(String[] args) throws IOException, ReflectiveOperationException {
        ReadmeTest test = new ReadmeTest();
        for (String line : exampleLines(Path.of("README.md"))) {
            test.play(line);
        }
        test.expect("there are examples", test.calls > 0);
        System.out.println(test.calls + " calls of the examples, " + test.wrong + " wrong");
        if (test.wrong != 0) {
            System.exit(1);
        }
    }

    /** What stands in the blocks of Java, one behind the other. */
    private static List<String> exampleLines(Path readme) throws IOException {
        List<String> lines = new ArrayList<>();
        boolean isInside = false;
        for (String line : Files.readAllLines(readme)) {
            if (line.startsWith("```")) {
                isInside = line.equals("```java");
            } else if (isInside && !line.isBlank()) {
                lines.add(line);
            }
        }
        return lines;
    }

    private void play(String line) throws ReflectiveOperationException {
        Matcher call = CALL.matcher(line);
        if (call.matches()) {
            calls++;
            playCall(line, call);
        } else {
            expect("a call or a comment: " + line,
                    line.startsWith("// ") || line.equals("Carpool board = new Carpool();"));
        }
    }

    private void playCall(String line, Matcher call) throws ReflectiveOperationException {
        int[] numbers = call.group(4).isEmpty() ? new int[0]
                : Arrays.stream(call.group(4).split(", ")).mapToInt(this::value).toArray();
        Class<?>[] types = new Class<?>[numbers.length];
        Arrays.fill(types, int.class);
        Method method = Carpool.class.getMethod(call.group(3), types);
        String answer = answer(method, numbers);
        expect(line + " -- got " + answer, answer.equals(due(call)));
        if (call.group(2) != null) {
            expect("the type of " + line, method.getReturnType().getName().equals(call.group(1)));
            variables.put(call.group(2), Integer.parseInt(answer));
        }
    }

    private String answer(Method method, int[] numbers) throws IllegalAccessException {
        try {
            Object[] boxed = Arrays.stream(numbers).boxed().toArray();
            return String.valueOf(method.invoke(board, boxed));
        } catch (InvocationTargetException e) {
            return "throws " + e.getCause().getClass().getSimpleName();
        }
    }

    /** Only a call that answers nothing has no comment. */
    private static String due(Matcher call) {
        return call.group(5) == null ? String.valueOf(call.group(6))
                : call.group(5) + call.group(6);
    }

    private int value(String argument) {
        return variables.containsKey(argument) ? variables.get(argument)
                : Integer.decode(argument);
    }

    private void expect(String what, boolean good) {
        if (!good) {
            wrong++;
            System.out.println("not so: " + what);
        }
    }
}
