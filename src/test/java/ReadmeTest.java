import java.io.IOException;
import java.lang.reflect.Method;
import java.lang.reflect.Modifier;
import java.nio.file.Files;
import java.nio.file.Path;
import java.util.ArrayList;
import java.util.List;
import java.util.regex.Matcher;
import java.util.regex.Pattern;

/** The examples of README.md answer what stands behind them, and its table names every call of the class. */
final class ReadmeTest {
    private static final String NEW_BUS = "ArbitratedBus bus = new ArbitratedBus();";
    private static final Pattern WRITE = Pattern.compile("for \\(char letter : \"(.*)\"\\.toCharArray\\(\\)\\) bus\\.append\\(letter\\);");
    private static final Pattern CALL = Pattern.compile("bus\\.(\\w+)\\((.*)\\); +// (-?\\d+)(:.*)?");
    private static final Check CHECK = new Check();

    private ArbitratedBus bus;

    public static void main(String[] args) throws IOException, ReflectiveOperationException {
        List<String> lines = Files.readAllLines(Path.of("README.md"));
        new ReadmeTest().follow(examplesOf(lines));
        String table = String.join("\n", lines.stream().filter(line -> line.startsWith("|")).toList());
        for (Method method : ArbitratedBus.class.getDeclaredMethods()) {
            if (Modifier.isPublic(method.getModifiers())) {
                CHECK.holds("README.md names " + method.getName() + ": it", table.contains("`" + method.getName() + "`"));
            }
        }
        CHECK.end();
    }

    private static List<String> examplesOf(List<String> lines) {
        List<String> examples = new ArrayList<>();
        boolean isInside = false;
        for (String line : lines) {
            if (line.startsWith("```")) {
                isInside = line.equals("```java");
            } else if (isInside) {
                examples.add(line);
            }
        }
        return examples;
    }

    private void follow(List<String> examples) throws ReflectiveOperationException {
        int followed = 0;
        for (String line : examples) {
            Matcher write = WRITE.matcher(line);
            Matcher call = CALL.matcher(line);
            if (line.equals(NEW_BUS)) {
                bus = new ArbitratedBus();
            } else if (write.matches()) {
                write.group(1).chars().forEach(letter -> bus.append(letter));
            } else if (call.matches()) {
                CHECK.due("README.md: " + line, answer(call.group(1), call.group(2)), Long.parseLong(call.group(3)));
                followed++;
            } else {
                CHECK.holds("README.md: '" + line + "' is followed: it", false);
            }
        }
        CHECK.holds("examples were found", followed > 30);
    }

    private long answer(String name, String written) throws ReflectiveOperationException {
        String[] words = written.isEmpty() ? new String[0] : written.split(", ");
        Class<?>[] types = new Class<?>[words.length];
        Object[] values = new Object[words.length];
        for (int k = 0; k < words.length; k++) {
            boolean isTruth = words[k].equals("true") || words[k].equals("false");
            types[k] = isTruth ? boolean.class : int.class;
            values[k] = isTruth ? (Object) Boolean.valueOf(words[k]) : (Object) Integer.decode(words[k]);
        }
        return ((Number) ArbitratedBus.class.getMethod(name, types).invoke(bus, values)).longValue();
    }
}
