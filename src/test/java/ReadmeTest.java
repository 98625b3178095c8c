import java.lang.reflect.Field;
import java.lang.reflect.Method;
import java.lang.reflect.Modifier;
import java.nio.file.Files;
import java.nio.file.Path;
import java.util.ArrayList;
import java.util.HashMap;
import java.util.List;
import java.util.Map;
import java.util.regex.Matcher;
import java.util.regex.Pattern;

/** README.md tells the truth: its examples answer what stands behind them, and it names all that there is. */
public final class ReadmeTest {
    private static final Pattern CALL = Pattern.compile("x\\.(\\w+)\\(([-\\d, ]*)\\);\\s*// (-?\\d+): .*");
    private static final Pattern TEXT = Pattern.compile("for \\(char c : \"(.*)\"\\.toCharArray\\(\\)\\) x\\.type\\(c\\);");
    private static int wrong = 0;
    private static int ran = 0;

    public static void main(String[] args) throws Exception {
        List<String> lines = Files.readAllLines(Path.of("README.md"));
        examplesAreTrue(lines);
        allIsNamed(String.join("\n", lines));
        System.out.println(wrong == 0 ? "README.md is true, " + ran + " examples" : wrong + " faults of README.md");
        if (wrong != 0) {
            System.exit(1);
        }
    }

    private static void fault(String text) {
        wrong++;
        System.out.println(text);
    }

    private static Map<String, Method> face() {
        Map<String, Method> face = new HashMap<>();
        for (Method method : BathRim.class.getDeclaredMethods()) {
            if (Modifier.isPublic(method.getModifiers())) {
                face.put(method.getName(), method);
            }
        }
        return face;
    }

    private static void examplesAreTrue(List<String> lines) throws Exception {
        BathRim x = new BathRim();
        boolean inExample = false;
        for (String line : lines) {
            if (line.startsWith("```")) {
                inExample = line.equals("```java");
            } else if (inExample && !line.equals("BathRim x = new BathRim();")) {
                runExample(x, line);
            }
        }
        if (ran == 0) {
            fault("README.md has no example");
        }
    }

    private static void runExample(BathRim x, String line) throws Exception {
        Matcher text = TEXT.matcher(line);
        if (text.matches()) {
            for (char letter : text.group(1).toCharArray()) {
                x.type(letter);
            }
            return;
        }
        Matcher call = CALL.matcher(line);
        Method method = call.matches() ? face().get(call.group(1)) : null;
        if (method == null) {
            fault("no call with its answer: " + line);
            return;
        }
        List<Object> numbers = new ArrayList<>();
        for (String number : call.group(2).isBlank() ? new String[0] : call.group(2).split(", ")) {
            numbers.add(Integer.parseInt(number));
        }
        int answer = (Integer) method.invoke(x, numbers.toArray());
        ran++;
        if (answer != Integer.parseInt(call.group(3))) {
            fault(line + " answered " + answer);
        }
    }

    private static void allIsNamed(String text) throws Exception {
        for (String name : face().keySet()) {
            named(text, "`" + name + "`");
        }
        for (Field field : BathRim.class.getFields()) {
            named(text, "| `" + field.getName() + "` | " + field.getInt(null) + " |");
        }
        for (Class<?> inner : BathRim.class.getDeclaredClasses()) {
            named(text, "`" + inner.getSimpleName() + "`");
        }
        try (var files = Files.newDirectoryStream(Path.of("src/test/java"), "*.java")) {
            for (Path file : files) {
                named(text, "`" + file.getFileName().toString().replace(".java", "") + "`");
            }
        }
    }

    private static void named(String text, String name) {
        if (!text.contains(name)) {
            fault("README.md does not name " + name);
        }
    }
}
