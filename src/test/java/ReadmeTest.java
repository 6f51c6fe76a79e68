import java.lang.reflect.InvocationTargetException;
import java.lang.reflect.Method;
import java.lang.reflect.Modifier;
import java.nio.file.Files;
import java.nio.file.Path;
import java.util.Arrays;
import java.util.Set;
import java.util.TreeSet;
import java.util.regex.Matcher;
import java.util.regex.Pattern;

/** Makes the calls that README.md shows and looks whether they answer what stands behind them. */
public final class ReadmeTest {
    private static final Path README = Path.of("README.md");
    private static final String NEW = "FloatTexts x = new FloatTexts();";
    private static final Pattern BLOCK = Pattern.compile("(?s)```java\n(.*?)```");
    private static final Pattern CALL = Pattern.compile("x\\.(\\w+)\\((.*?)\\);\\s+// ([^\\s:]+)(?:: (.*))?");
    private static final String OUT = "OUT is ";

    private ReadmeTest() {
    }

    public static void main(String[] args) throws Exception {
        Set<String> shown = new TreeSet<>();
        Matcher block = BLOCK.matcher(Files.readString(README));
        while (block.find()) {
            run(block.group(1), shown);
        }
        Due.under(README.toString());
        Due.same("the calls that are shown", shown.toString(), face().toString());
        Due.end(ReadmeTest.class);
    }

    private static Set<String> face() {
        Set<String> names = new TreeSet<>();
        for (Method method : FloatTexts.class.getDeclaredMethods()) {
            if (Modifier.isPublic(method.getModifiers())) {
                names.add(method.getName());
            }
        }
        return names;
    }

    private static void run(String block, Set<String> shown) throws IllegalAccessException {
        FloatTexts x = new FloatTexts();
        for (String line : block.split("\n")) {
            Due.under(README + ", " + line);
            Matcher call = CALL.matcher(line);
            if (call.matches()) {
                shown.add(call.group(1));
                Due.same("the call", answerOf(x, call.group(1), call.group(2)), plain(call.group(3)));
                lookAtOut(x, call.group(4));
            } else {
                Due.same("a line that is no call", line, NEW);
            }
        }
    }

    private static String answerOf(FloatTexts x, String name, String arguments) throws IllegalAccessException {
        Method method = methodOf(name);
        String[] told = arguments.isEmpty() ? new String[0] : arguments.split(", ");
        Class<?>[] types = method.getParameterTypes();
        if (told.length != types.length) {
            return "no call";
        }
        Object[] values = new Object[types.length];
        for (int i = 0; i < types.length; i++) {
            values[i] = valueOf(types[i], told[i]);
        }
        try {
            return method.invoke(x, values).toString();
        } catch (InvocationTargetException e) {
            return e.getCause().getClass().getSimpleName();
        }
    }

    private static Method methodOf(String name) {
        return Arrays.stream(FloatTexts.class.getDeclaredMethods())
            .filter(method -> method.getName().equals(name) && Modifier.isPublic(method.getModifiers()))
            .findFirst().orElseThrow();
    }

    private static Object valueOf(Class<?> type, String told) {
        if (type == boolean.class) {
            return Boolean.valueOf(told);
        }
        if (type == int.class) {
            return Integer.valueOf(told);
        }
        return Long.valueOf(plain(told.replace("L", "")));
    }

    /** A number as a decimal one; other words as they are. */
    private static String plain(String told) {
        return told.startsWith("0x") ? Long.toString(Long.parseUnsignedLong(told.substring(2), 16)) : told;
    }

    private static void lookAtOut(FloatTexts x, String words) {
        if (words == null || !words.startsWith(OUT)) {
            return;
        }
        StringBuilder out = new StringBuilder();
        while (Due.thrownBy(x, y -> y.out(out.length())).equals("nothing")) {
            out.append((char) x.out(out.length()));
        }
        Due.same("OUT", out.toString(), words.substring(OUT.length()));
    }
}
