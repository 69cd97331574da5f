import java.io.IOException;
import java.lang.reflect.Method;
import java.lang.reflect.Modifier;
import java.nio.file.Files;
import java.nio.file.Path;
import java.util.Map;
import java.util.Set;
import java.util.TreeMap;
import java.util.TreeSet;
import java.util.regex.Matcher;
import java.util.regex.Pattern;

/** What README.md shows is what the class answers, and README.md names every call of the class. */
public final class ReadmeTest {
    private static final Pattern MADE = Pattern.compile("WheelAreas x = new WheelAreas\\(\\);");
    private static final Pattern FED = Pattern.compile("for \\(char c : \"([^\"]*)\"\\.toCharArray\\(\\)\\) x\\.feed\\(c\\);");
    private static final Pattern CALLED = Pattern.compile("x\\.(\\w+)\\(([^)]*)\\); +// (-?\\d+)(:.*)?");

    private static final Map<String, Method> FACE = new TreeMap<>();
    private static WheelAreas x = null;
    private static int calls = 0;
    private static int wrong = 0;

    private static void hold(boolean holds, String what) {
        if (!holds) {
            wrong++;
            System.out.println(what);
        }
    }

    public static void main(String[] args) throws IOException, ReflectiveOperationException {
        for (Method m : WheelAreas.class.getDeclaredMethods()) {
            if (Modifier.isPublic(m.getModifiers())) {
                FACE.put(m.getName(), m);
            }
        }
        String page = Files.readString(Path.of("README.md"));
        Matcher block = Pattern.compile("(?s)```java\n(.*?)```").matcher(page);
        while (block.find()) {
            for (String line : block.group(1).split("\n")) {
                take(line);
            }
        }
        hold(calls > 50 && calls <= 512, "README.md shows " + calls + " calls");
        hold(unnamed(page).isEmpty(), "README.md does not name " + unnamed(page));
        System.out.println(calls + " calls of README.md, " + wrong + " not as due");
        if (wrong != 0) {
            System.exit(1);
        }
    }

    private static void take(String line) throws ReflectiveOperationException {
        Matcher fed = FED.matcher(line);
        Matcher called = CALLED.matcher(line);
        if (MADE.matcher(line).matches()) {
            x = new WheelAreas();
        } else if (fed.matches()) {
            for (char c : fed.group(1).toCharArray()) {
                hold(x.feed(c) > 0, "a byte of " + line + " is refused");
                calls++;
            }
        } else if (called.matches() && FACE.containsKey(called.group(1))) {
            long got = answer(FACE.get(called.group(1)), called.group(2));
            hold(got == Long.parseLong(called.group(3)), line + " answered " + got);
            calls++;
        } else {
            hold(false, "README.md has a line that can not be run: " + line);
        }
    }

    private static long answer(Method method, String numbers) throws ReflectiveOperationException {
        String[] parts = numbers.isEmpty() ? new String[0] : numbers.split(", ");
        Object[] values = new Object[parts.length];
        for (int i = 0; i < parts.length; i++) {
            values[i] = Integer.valueOf(parts[i]);
        }
        return ((Number) method.invoke(x, values)).longValue();
    }

    private static Set<String> unnamed(String page) {
        Set<String> names = new TreeSet<>();
        for (String name : FACE.keySet()) {
            if (!Pattern.compile("[.`]" + name + "\\(").matcher(page).find()) {
                names.add(name);
            }
        }
        return names;
    }
}
