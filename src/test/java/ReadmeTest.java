import java.lang.reflect.Method;
import java.lang.reflect.Modifier;
import java.nio.file.Files;
import java.nio.file.Path;
import java.util.HashMap;
import java.util.Map;
import java.util.Set;
import java.util.TreeSet;
import java.util.regex.Matcher;
import java.util.regex.Pattern;

/** The examples of README.md: each answers what stands behind it, and each call of the face has one. */
public final class ReadmeTest {
    private static final Pattern BLOCK = Pattern.compile("(?s)```java\n(.*?)```");
    private static final Pattern EXAMPLE = Pattern.compile("(?:int (\\w+) = )?county\\.(\\w+)\\((.*)\\); +// (-?\\d+)(?:: .*)?");
    private static final String BEGIN = "LeftShoes county = new LeftShoes();";

    private final Due due = new Due();
    private final Map<String, Integer> variables = new HashMap<>();
    private final Set<String> shown = new TreeSet<>();
    private LeftShoes county;

    public static void main(String[] args) throws Exception {
        new ReadmeTest().run();
    }

    private void run() throws Exception {
        Matcher block = BLOCK.matcher(Files.readString(Path.of("README.md")));
        while (block.find()) {
            for (String line : block.group(1).split("\n")) {
                due.of("README.md: " + line);
                example(line);
            }
        }
        due.of("README.md: each call of the face has an example");
        for (Method method : LeftShoes.class.getDeclaredMethods()) {
            if (Modifier.isPublic(method.getModifiers())) {
                due.holds(method.getName() + " has one", shown.contains(method.getName()));
            }
        }
        due.end();
    }

    private void example(String line) throws Exception {
        if (line.equals(BEGIN)) {
            county = new LeftShoes();
            return;
        }
        Matcher example = EXAMPLE.matcher(line);
        Method method = example.matches() ? method(example.group(2)) : null;
        due.holds("it is a call of the face, and tells its answer", method != null && county != null);
        if (method == null || county == null) {
            return;
        }
        shown.add(method.getName());
        int got = (Integer) method.invoke(county, arguments(method, example.group(3)));
        due.is(method.getName() + "(" + example.group(3) + ")", got, Integer.parseInt(example.group(4)));
        if (example.group(1) != null) {
            variables.put(example.group(1), got);
        }
    }

    private static Method method(String name) {
        for (Method method : LeftShoes.class.getDeclaredMethods()) {
            if (Modifier.isPublic(method.getModifiers()) && method.getName().equals(name)) {
                return method;
            }
        }
        return null;
    }

    private Object[] arguments(Method method, String text) {
        String[] told = text.isEmpty() ? new String[0] : text.split(", ");
        Class<?>[] types = method.getParameterTypes();
        Object[] all = new Object[told.length];
        for (int k = 0; k < told.length; k++) {
            all[k] = k < types.length ? argument(types[k], told[k]) : told[k];
        }
        return all;
    }

    private Object argument(Class<?> type, String told) {
        if (type == boolean.class) {
            return Boolean.valueOf(told);
        }
        if (type == long.class) {
            return Long.decode(told.substring(0, told.length() - 1));
        }
        return variables.containsKey(told) ? variables.get(told) : Integer.valueOf(told);
    }
}
