import java.io.IOException;
import java.lang.reflect.InvocationTargetException;
import java.lang.reflect.Method;
import java.nio.file.Files;
import java.nio.file.Path;
import java.util.Set;
import java.util.TreeSet;
import java.util.regex.Matcher;
import java.util.regex.Pattern;

/** README.md shows every call, and each call that it shows answers what it says there. */
final class ReadmeTest {
    private static final String NEW_OBJECT = "SootTalk x = new SootTalk();";
    private static final String TEXT = "    ";
    private static final Pattern CALL = Pattern.compile("x\\.(\\w+)\\(([^)]*)\\);\\s+// (-?\\d+)(:.*)?");

    private static SootTalk x = new SootTalk();
    private static final Set<String> shown = new TreeSet<>();

    public static void main(String[] args) throws IOException, IllegalAccessException, InvocationTargetException {
        for (String line : Files.readAllLines(Path.of("README.md"))) {
            if (line.equals(NEW_OBJECT)) x = new SootTalk();
            if (line.startsWith("x.")) call(line);
            if (line.startsWith(TEXT)) tell(line.substring(TEXT.length()));
        }
        for (Method m : SootTalk.class.getMethods()) {
            if (m.getDeclaringClass() != SootTalk.class) continue;
            Due.is("README.md: shows " + m.getName(), shown.contains(m.getName()) ? 1 : 0, 1);
        }
        Due.end();
    }

    private static void call(String line) throws IllegalAccessException, InvocationTargetException {
        Matcher m = CALL.matcher(line);
        boolean isCall = m.matches();
        Due.is("README.md: a call and its answer in '" + line + "'", isCall ? 1 : 0, 1);
        if (!isCall) return;
        Method method = named(m.group(1));
        Due.is("README.md: there is " + m.group(1), method == null ? 0 : 1, 1);
        if (method == null) return;
        shown.add(method.getName());
        long got = ((Number) method.invoke(x, arguments(m.group(2), method.getParameterTypes()))).longValue();
        Due.is("README.md: " + line, got, Long.parseLong(m.group(3)));
    }

    /** A text without a fault has an item ahead of each sign, and one behind the last. */
    private static void tell(String text) {
        Due.is("README.md: the text '" + text + "'", Due.house(new SootTalk(), text), text.split(";").length);
    }

    private static Method named(String name) {
        for (Method m : SootTalk.class.getMethods()) if (m.getName().equals(name)) return m;
        return null;
    }

    private static Object[] arguments(String told, Class<?>[] types) {
        String[] parts = told.isEmpty() ? new String[0] : told.split(", ");
        Object[] arguments = new Object[parts.length];
        for (int i = 0; i < parts.length; i++) {
            long value = Long.decode(parts[i].replace("L", ""));
            boolean isLong = i < types.length && types[i] == long.class;
            arguments[i] = isLong ? (Object) value : (Object) (int) value;
        }
        return arguments;
    }
}
