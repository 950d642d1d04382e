import java.io.IOException;
import java.lang.reflect.Method;
import java.nio.file.Files;
import java.nio.file.Path;
import java.util.regex.Matcher;
import java.util.regex.Pattern;

/** Makes the calls that README.md shows, and holds each to the answer that stands behind it there. */
public final class ReadmeCalls {
    private static final Pattern CALL = Pattern.compile("x\\.(\\w+)\\(([^)]*)\\);\\s*// (-?\\d+|true|false)\\b.*");
    private static int asked = 0;
    private static int wrong = 0;

    public static void main(String[] args) throws IOException, ReflectiveOperationException {
        Path readme = args.length < 1 ? Path.of("README.md") : readmeOf(Path.of(args[0]));
        ElectionHouse x = null;
        for (String line : Files.readAllLines(readme)) {
            if (line.startsWith("ElectionHouse x = new ElectionHouse();")) {
                x = new ElectionHouse();
            } else if (line.startsWith("x.")) {
                check(x, line);
            }
        }
        if (asked == 0) {
            tell("no call is shown in " + readme);
        }
        System.out.println(asked + " calls, " + wrong + " wrong");
        if (wrong != 0) {
            System.exit(1);
        }
    }

    /** The source stands at src/main/java, four below the project. */
    private static Path readmeOf(Path source) {
        return source.toAbsolutePath().resolve("../../../../README.md").normalize();
    }

    private static void tell(String what) {
        wrong++;
        System.out.println(what);
    }

    private static void check(ElectionHouse x, String line) throws ReflectiveOperationException {
        Matcher m = CALL.matcher(line);
        if (x == null || !m.matches()) {
            tell("no call with an answer: " + line);
            return;
        }
        asked++;
        String got = String.valueOf(call(x, m.group(1), m.group(2)));
        if (!got.equals(m.group(3))) {
            tell("answered " + got + ": " + line);
        }
    }

    private static Object call(ElectionHouse x, String name, String given) throws ReflectiveOperationException {
        String[] texts = given.isBlank() ? new String[0] : given.split(",\\s*");
        for (Method m : ElectionHouse.class.getDeclaredMethods()) {
            if (m.getName().equals(name) && m.getParameterCount() == texts.length) {
                Object[] values = new Object[texts.length];
                for (int i = 0; i < texts.length; i++) {
                    boolean isNumber = m.getParameterTypes()[i] == int.class;
                    values[i] = isNumber ? (Object) Long.decode(texts[i]).intValue() : (Object) texts[i].equals("true");
                }
                return m.invoke(x, values);
            }
        }
        return "no such call";
    }
}
