import java.io.IOException;
import java.lang.reflect.InvocationTargetException;
import java.lang.reflect.Method;
import java.lang.reflect.Modifier;
import java.nio.charset.StandardCharsets;
import java.nio.file.Files;
import java.nio.file.Path;
import java.util.regex.Matcher;
import java.util.regex.Pattern;

/** README.md: the calls of its example answer what stands behind them, and it names every call that there is. */
public final class ReadmeTest {
    private static final Due DUE = new Due("ReadmeTest");
    private static final Pattern CALL = Pattern.compile("yard\\.(\\w+)\\(([^)]*)\\);\\s*// (-?\\d+).*");
    private static final Path README = Path.of("README.md");

    public static void main(String[] args) throws IOException {
        String text = Files.readString(README, StandardCharsets.UTF_8);
        example(text);
        for (Method m : RopeTreaty.class.getDeclaredMethods()) {
            if (Modifier.isPublic(m.getModifiers())) {
                boolean named = text.contains("`" + m.getName() + "`");
                DUE.is(m.getName() + " is named in the README", named ? 1 : 0, 1);
            }
        }
        DUE.end();
    }

    private static void example(String text) {
        RopeTreaty yard = new RopeTreaty();
        int calls = 0;
        for (String line : text.split("\n")) {
            Matcher call = CALL.matcher(line);
            if (call.matches()) {
                calls++;
                DUE.is(line, answer(yard, call.group(1), call.group(2)), Long.parseLong(call.group(3)));
            } else {
                DUE.is("a call without an answer: " + line, line.startsWith("yard.") ? 1 : 0, 0);
            }
        }
        DUE.is("the example has calls", calls > 0 ? 1 : 0, 1);
    }

    private static long answer(RopeTreaty yard, String name, String told) {
        String[] words = told.isEmpty() ? new String[0] : told.split(", ");
        for (Method m : RopeTreaty.class.getDeclaredMethods()) {
            if (Modifier.isPublic(m.getModifiers()) && m.getName().equals(name)
                && m.getParameterCount() == words.length) {
                return call(m, yard, words);
            }
        }
        throw new IllegalArgumentException("there is no call " + name + "(" + told + ")");
    }

    private static long call(Method m, RopeTreaty yard, String[] words) {
        Object[] values = new Object[words.length];
        for (int i = 0; i < words.length; i++) {
            long value = Long.decode(words[i].replace("L", ""));
            values[i] = m.getParameterTypes()[i] == long.class ? (Object) value : (Object) (int) value;
        }
        try {
            return (Integer) m.invoke(yard, values);
        } catch (InvocationTargetException | IllegalAccessException failed) {
            throw new IllegalStateException(failed);
        }
    }
}
