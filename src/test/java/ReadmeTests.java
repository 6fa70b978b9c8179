import java.io.IOException;
import java.lang.reflect.Method;
import java.nio.charset.StandardCharsets;
import java.nio.file.Files;
import java.nio.file.Path;
import java.util.ArrayList;
import java.util.List;
import java.util.TreeMap;
import java.util.regex.Matcher;
import java.util.regex.Pattern;

/** Makes the calls of README.md's examples, in their order, and looks whether they answer what stands there. */
public final class ReadmeTests extends Due {
    private static final String NEW = "    LazyHouse house = new LazyHouse();";
    private static final Pattern CALL = Pattern.compile("    house\\.(\\w+)\\(([^()]*)\\);  // (-?\\d+)(:.*)?");
    private static final Pattern SHOWN = Pattern.compile("    (.*\\bmain = .*;)  // (.*)");
    private static final String ERROR = "error ";

    public static void main(String[] args) throws IOException, ReflectiveOperationException {
        LazyHouse house = null;
        TreeMap<String, Integer> called = new TreeMap<>();
        for (String line : Files.readAllLines(Path.of("README.md"), StandardCharsets.UTF_8)) {
            Matcher call = CALL.matcher(line);
            Matcher shown = SHOWN.matcher(line);
            if (line.equals(NEW)) {
                house = new LazyHouse();
            } else if (house != null && call.matches()) {
                int want = Integer.parseInt(call.group(3));
                due("README's " + line.trim(), answer(house, call.group(1), call.group(2)), want);
                called.merge(call.group(1), 1, Integer::sum);
            } else if (shown.matches()) {
                dueAsTold(shown.group(1), shown.group(2));
                called.merge("a text", 1, Integer::sum);
            } else {
                due("a line of README that is no example: " + line, line.contains("house.") ? 1 : 0, 0);
            }
        }
        everyCallIsThere(called);
        finish("ReadmeTests");
    }

    private static int answer(LazyHouse house, String name, String numbers) throws ReflectiveOperationException {
        List<Object> values = new ArrayList<>();
        List<Class<?>> types = new ArrayList<>();
        for (String number : numbers.isEmpty() ? new String[0] : numbers.split(", ")) {
            values.add(Long.decode(number).intValue());
            types.add(int.class);
        }
        Method method = LazyHouse.class.getMethod(name, types.toArray(new Class<?>[0]));
        return (Integer) method.invoke(house, values.toArray());
    }

    private static void dueAsTold(String text, String told) {
        if (!told.startsWith(ERROR)) {
            dueShown(text, told);
            return;
        }
        int error = Integer.parseInt(told.substring(ERROR.length()));
        due("step(20000) of [" + text + "]", begun(text, 2000).step(20000), 10 + error);
    }

    private static void everyCallIsThere(TreeMap<String, Integer> called) {
        due("texts of README and what they show", called.getOrDefault("a text", 0), 10);
        for (Method method : LazyHouse.class.getDeclaredMethods()) {
            boolean told = called.getOrDefault(method.getName(), 0) > 0;
            due("README has an example of " + method.getName(), told ? 1 : 0, 1);
        }
    }
}
