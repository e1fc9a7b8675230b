import java.io.IOException;
import java.lang.reflect.InvocationTargetException;
import java.lang.reflect.Method;
import java.lang.reflect.Modifier;
import java.nio.file.Files;
import java.nio.file.Path;
import java.util.ArrayList;
import java.util.Arrays;
import java.util.List;
import java.util.Map;
import java.util.Set;
import java.util.TreeMap;
import java.util.TreeSet;
import java.util.regex.Matcher;
import java.util.regex.Pattern;
import java.util.stream.Collectors;

/** The calls in README.md answer what stands behind them there, and each public method has an example. */
public final class ReadmeTest {
    private static final String MAKING = "PusherRoom x = new PusherRoom();";
    private static final Pattern TYPING = Pattern.compile("type\\(x, \"([^\"]*)\"\\);");
    private static final Pattern CALL =
            Pattern.compile("x\\.(\\w+)\\((.*)\\); +// (?:throws (\\w+)|'(.)'|(-?\\d+|true|false))(?:: .*|; .*|)");

    private final Check check = new Check();
    private final Map<String, Method> methods = publicMethods();
    private final Set<String> shown = new TreeSet<>();
    private PusherRoom x = new PusherRoom();

    public static void main(String[] args) throws IOException {
        ReadmeTest test = new ReadmeTest();
        for (String line : examples(Path.of("README.md"))) {
            test.take(line);
        }
        test.check.due("the methods with an example", test.methods.keySet(), () -> test.shown);
        test.check.end("ReadmeTest");
    }

    /** The lines of the blocks of Java code but for the one that declares a method. */
    private static List<String> examples(Path file) throws IOException {
        List<String> lines = new ArrayList<>();
        Matcher block = Pattern.compile("```java\n(.*?)```", Pattern.DOTALL).matcher(Files.readString(file));
        while (block.find()) {
            if (!block.group(1).startsWith("static ")) {
                lines.addAll(Arrays.asList(block.group(1).split("\n")));
            }
        }
        return lines;
    }

    private static Map<String, Method> publicMethods() {
        return Arrays.stream(PusherRoom.class.getDeclaredMethods())
                .filter(m -> Modifier.isPublic(m.getModifiers()))
                .collect(Collectors.toMap(Method::getName, m -> m, (a, b) -> a, TreeMap::new));
    }

    private void take(String line) {
        Matcher typing = TYPING.matcher(line);
        Matcher call = CALL.matcher(line);
        if (line.equals(MAKING)) {
            x = new PusherRoom();
        } else if (typing.matches()) {
            RoomTests.type(x, typing.group(1));
        } else if (call.matches() && methods.containsKey(call.group(1))) {
            shown.add(call.group(1));
            String want = call.group(3) != null ? call.group(3) : call.group(4) != null ? call.group(4) : call.group(5);
            check.due("README.md: " + line, want, () -> invoke(methods.get(call.group(1)), call.group(2)));
        } else {
            check.due("README.md: an example of another form", "", () -> line);
        }
    }

    private Object invoke(Method method, String values) throws Exception {
        String[] texts = values.isEmpty() ? new String[0] : values.split(", ");
        Class<?>[] types = method.getParameterTypes();
        Object[] arguments = new Object[types.length];
        for (int i = 0; i < types.length; i++) {
            arguments[i] = valueOf(types[i], texts[i]);
        }
        try {
            return method.invoke(x, arguments);
        } catch (InvocationTargetException e) {
            throw (Exception) e.getCause();
        }
    }

    private static Object valueOf(Class<?> type, String text) {
        if (type == boolean.class) {
            return Boolean.valueOf(text);
        }
        if (type == char.class) {
            return text.equals("'\\t'") ? '\t' : text.charAt(1);
        }
        return Integer.valueOf(text);
    }
}
