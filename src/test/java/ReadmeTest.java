import java.io.IOException;
import java.lang.reflect.Method;
import java.lang.reflect.Modifier;
import java.nio.file.Files;
import java.nio.file.Path;
import java.util.ArrayList;
import java.util.List;
import java.util.regex.Matcher;
import java.util.regex.Pattern;

/** The calls of README.md's example answer what stands behind them, and each call is named there. */
final class ReadmeTest {
    private static final Pattern CALL =
            Pattern.compile("cote\\.(\\w+)\\(([^)]*)\\);(?: +// (true|false|-?\\d+))?.*");

    public static void main(String[] args) throws Exception {
        Check check = new Check("ReadmeTest");
        String page = Files.readString(readmeOf(Path.of(args[0])));
        CanonCote cote = new CanonCote();
        int calls = 0;
        for (String line : page.split("\n")) {
            Matcher told = CALL.matcher(line);
            if (told.matches()) {
                calls++;
                checkCall(check, cote, told);
            }
        }
        check.due("calls in the example", calls, 15);
        for (Method method : CanonCote.class.getDeclaredMethods()) {
            if (Modifier.isPublic(method.getModifiers())) {
                boolean isNamed = page.contains("`" + method.getName() + "`")
                        || page.contains("`" + method.getName() + "(");
                check.due(method.getName() + " is named", isNamed, true);
            }
        }
        check.end();
    }

    private static Path readmeOf(Path source) throws IOException {
        return source.toRealPath().getParent().resolve("../../../README.md");
    }

    private static void checkCall(Check check, CanonCote cote, Matcher told) throws Exception {
        Method method = methodOf(told.group(1));
        List<Object> numbers = new ArrayList<>();
        for (String number : told.group(2).split(", ")) {
            long value = Long.decode(number.replace("L", ""));
            if (method.getParameterTypes()[0] == long.class) {
                numbers.add(value);
            } else {
                numbers.add((int) value);
            }
        }
        String answer = String.valueOf(method.invoke(cote, numbers.toArray()));
        String due = told.group(3) == null ? "null" : told.group(3);
        check.due(told.group() + " answered " + answer, answer.equals(due), true);
    }

    private static Method methodOf(String name) {
        for (Method method : CanonCote.class.getDeclaredMethods()) {
            if (method.getName().equals(name)) {
                return method;
            }
        }
        throw new IllegalArgumentException("no call " + name);
    }
}
