import java.lang.reflect.Method;
import java.nio.file.Files;
import java.nio.file.Path;
import java.util.regex.Matcher;
import java.util.regex.Pattern;

/** README.md shows a run of calls with what each answers; it must be what the class answers. */
public final class ReadmeTests {
    private static final Pattern EXAMPLE = Pattern.compile("(?s)```java\n(.*?)```");
    private static final Pattern CALL = Pattern.compile("x\\.(\\w+)\\(([-\\d, ]*)\\);\\s*// (-?\\d+|[A-Z]+)(:.*)?");
    private static final String MAKES = "StepsAhead x = new StepsAhead();";

    public static void main(String[] args) throws Exception {
        Matcher example = EXAMPLE.matcher(Files.readString(Path.of("README.md")));
        int asked = 0;
        int wrong = 0;
        while (example.find()) {
            StepsAhead x = new StepsAhead();
            for (String line : example.group(1).split("\n")) {
                if (!line.isBlank() && !line.equals(MAKES)) {
                    asked++;
                    wrong += holds(x, line) ? 0 : 1;
                }
            }
        }
        System.out.println(asked + " calls of README.md, " + wrong + " of them wrong");
        if (wrong != 0 || asked == 0) {
            System.exit(1);
        }
    }

    private static boolean holds(StepsAhead x, String line) throws Exception {
        Matcher call = CALL.matcher(line);
        if (!call.matches()) {
            System.out.println("README.md: no call with its answer: " + line);
            return false;
        }
        long got = answer(x, call.group(1), call.group(2));
        long want = number(call.group(3));
        if (got != want) {
            System.out.println("README.md: " + line + ": answered " + got);
        }
        return got == want;
    }

    private static long answer(StepsAhead x, String name, String given) throws Exception {
        String[] numbers = given.isBlank() ? new String[0] : given.split(",\\s*");
        Object[] arguments = new Object[numbers.length];
        for (int i = 0; i < numbers.length; i++) {
            arguments[i] = Integer.valueOf(numbers[i].trim());
        }
        for (Method method : StepsAhead.class.getMethods()) {
            if (method.getName().equals(name)) {
                return ((Number) method.invoke(x, arguments)).longValue();
            }
        }
        throw new IllegalArgumentException("no call of the class: " + name);
    }

    private static long number(String answer) throws Exception {
        boolean named = Character.isLetter(answer.charAt(0));
        return named ? StepsAhead.class.getField(answer).getInt(null) : Long.parseLong(answer);
    }
}
