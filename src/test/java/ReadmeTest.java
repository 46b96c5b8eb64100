import java.io.IOException;
import java.lang.reflect.InvocationTargetException;
import java.lang.reflect.Method;
import java.lang.reflect.Modifier;
import java.nio.file.Files;
import java.nio.file.Path;
import java.util.Arrays;
import java.util.regex.Matcher;
import java.util.regex.Pattern;

/** The calls in README.md answer what README.md says; each line of its Java is understood here, or the test fails. */
public final class ReadmeTest {
    private static final Checks CHECKS = new Checks();
    private static final String NEW_OBJECT = "LateThermometers x = new LateThermometers();";
    private static final Pattern CALL = Pattern.compile("x\\.(\\w+)\\(([^()]*)\\); +// (= |throws )([\\w.-]+): .*");
    /** Fewer would mean that the calls were not found. */
    private static final int LEAST_CALLS = 30;

    private LateThermometers x;
    private int calls;

    public static void main(String[] args) throws IOException {
        String readme = Files.readString(Path.of(System.getProperty("readme", "README.md")));
        ReadmeTest test = new ReadmeTest();
        Matcher blocks = Pattern.compile("(?s)```java\n(.*?)```").matcher(readme);
        while (blocks.find()) {
            for (String line : blocks.group(1).split("\n")) {
                test.check(line);
            }
        }
        CHECKS.isTrue("README.md tells calls and answers", test.calls >= LEAST_CALLS);
        namesEachCall(readme);
        CHECKS.finish("ReadmeTest");
    }

    private void check(String line) {
        Matcher call = CALL.matcher(line);
        if (line.equals(NEW_OBJECT)) {
            x = new LateThermometers();
        } else if (x != null && call.matches()) {
            calls++;
            CHECKS.sameText("README.md: " + line, answer(call.group(1), call.group(2)), call.group(4));
        } else {
            CHECKS.isTrue("README.md: the line \"" + line + "\" can be tested", false);
        }
    }

    private String answer(String name, String told) {
        String[] arguments = told.isEmpty() ? new String[0] : told.split(", ");
        Object[] numbers = Arrays.stream(arguments).map(ReadmeTest::number).toArray();
        for (Method method : LateThermometers.class.getMethods()) {
            if (method.getName().equals(name) && method.getParameterCount() == numbers.length) {
                return answer(method, numbers);
            }
        }
        return "there is no such call";
    }

    private static Object number(String argument) {
        boolean isCharacter = argument.length() == 3 && argument.startsWith("'") && argument.endsWith("'");
        return isCharacter ? (int) argument.charAt(1) : Integer.parseInt(argument);
    }

    private String answer(Method method, Object[] numbers) {
        try {
            return String.valueOf(method.invoke(x, numbers));
        } catch (InvocationTargetException e) {
            return e.getCause().getClass().getSimpleName();
        } catch (IllegalAccessException e) {
            throw new IllegalStateException(e);
        }
    }

    private static void namesEachCall(String readme) {
        for (Method method : LateThermometers.class.getDeclaredMethods()) {
            if (Modifier.isPublic(method.getModifiers())) {
                CHECKS.isTrue("README.md names " + method.getName(), readme.contains("`" + method.getName() + "`"));
            }
        }
    }
}
