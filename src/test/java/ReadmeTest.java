import java.io.IOException;
import java.lang.reflect.Method;
import java.nio.file.Files;
import java.nio.file.Path;
import java.util.regex.Matcher;
import java.util.regex.Pattern;

/** README.md's example answers what README.md says, its law can be told, and it names every test there is. */
public final class ReadmeTest extends Check {
    private static final Pattern CALL = Pattern.compile("x\\.(\\w+)\\((.*?)\\);\\s*(?://\\s*(-?\\d+)\\b)?.*");
    private static final Pattern FED = Pattern.compile("// \"([^\"]*)\"");

    public static void main(String[] args) throws IOException, ReflectiveOperationException {
        String readme = Files.readString(Path.of("README.md"));
        example(readme);
        law(readme);
        tests(readme);
        closes();
    }

    private static void example(String readme) throws ReflectiveOperationException {
        about = "README.md, the example";
        int from = readme.indexOf("```java\n");
        int to = readme.indexOf("```", from + 3);
        due("there is one", from >= 0 && to > from, true);
        if (from < 0 || to < from) return;
        GloveHouses x = null;
        int answers = 0;
        for (String line : readme.substring(from + 8, to).split("\n")) {
            if (line.equals("GloveHouses x = new GloveHouses();")) {
                x = new GloveHouses();
                continue;
            }
            Matcher call = CALL.matcher(line);
            due("it can be read: " + line, call.matches(), true);
            if (!call.matches()) continue;
            Object got = call(x, call.group(1), call.group(2));
            if (call.group(3) != null) {
                due(line, ((Number) got).longValue(), Long.parseLong(call.group(3)));
                answers++;
            }
            Matcher fed = FED.matcher(line);
            if (fed.find()) {
                due(line, x.count(3), fed.group(1).length());
                due(line, x.fault(0), fault(0, fed.group(1)));
            }
        }
        due("so many answers", answers >= 7, true);
    }

    private static Object call(GloveHouses x, String name, String told) throws ReflectiveOperationException {
        String[] numbers = told.isEmpty() ? new String[0] : told.split(",\\s*");
        for (Method m : GloveHouses.class.getMethods()) {
            if (m.getName().equals(name) && m.getParameterCount() == numbers.length) {
                Object[] args = new Object[numbers.length];
                for (int i = 0; i < args.length; i++) args[i] = Integer.decode(numbers[i]);
                return m.invoke(x, args);
            }
        }
        throw new IllegalStateException(name);
    }

    private static void law(String readme) {
        about = "README.md, its law";
        Matcher law = Pattern.compile("`(y:[^`]*)`").matcher(readme);
        due("there is one", law.find(), true);
        faultDue(1, law.group(1), NONE);
    }

    private static void tests(String readme) throws IOException {
        about = "README.md, how to run its tests";
        due("by .ci/run", readme.contains("bash .ci/run"), true);
        try (var files = Files.list(Path.of("src/test/java"))) {
            for (Path file : (Iterable<Path>) files::iterator) {
                String name = file.getFileName().toString().replace(".java", "");
                due("it names " + name, Pattern.compile("\\b" + name + "\\b").matcher(readme).find(), true);
            }
        }
    }
}
