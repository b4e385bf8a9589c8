import java.io.IOException;
import java.lang.reflect.Method;
import java.lang.reflect.Modifier;
import java.nio.file.Files;
import java.nio.file.Path;
import java.util.ArrayList;
import java.util.HashMap;
import java.util.List;
import java.util.Map;
import java.util.regex.Matcher;
import java.util.regex.Pattern;

/** The examples of README.md answer what is told beside them, and every call is named there. */
public final class ReadmeTest {
    private static final Pattern BLOCK = Pattern.compile("(?s)```java\n(.*?)```");
    private static final Pattern WRITING =
        Pattern.compile("for \\(char letter : \"([^\"]*)\"\\.toCharArray\\(\\)\\) borough\\.write\\(letter\\);");
    private static final Pattern CALL = Pattern.compile("borough\\.(\\w+)\\(([-0-9, ]*)\\); *// (-?\\d+|[A-Z]+): .+");
    private static final String MAKING = "TwoMayors borough = new TwoMayors();";
    private static final Map<String, Integer> NAMES =
        Map.of("BAD", TwoMayors.BAD, "NO", TwoMayors.NO, "FULL", TwoMayors.FULL, "NONE", TwoMayors.NONE);
    private static final int FEWEST_BLOCKS = 3;

    private static final Map<String, Method> CALLS = new HashMap<>();

    private ReadmeTest() {
    }

    public static void main(String[] args) throws IOException, ReflectiveOperationException {
        String readme = Files.readString(Path.of("README.md"));
        for (Method m : TwoMayors.class.getDeclaredMethods()) {
            if (Modifier.isPublic(m.getModifiers())) {
                CALLS.put(m.getName(), m);
            }
        }
        examples(readme);
        names(readme);
        Check.close();
    }

    private static void examples(String readme) throws ReflectiveOperationException {
        Matcher block = BLOCK.matcher(readme);
        int blocks = 0;
        while (block.find()) {
            blocks++;
            example(block.group(1).split("\n"));
        }
        Check.due("README.md has examples", blocks >= FEWEST_BLOCKS ? 1 : 0, 1);
    }

    private static void example(String[] lines) throws ReflectiveOperationException {
        Check.due("an example starts with " + MAKING, lines[0].equals(MAKING) ? 1 : 0, 1);
        TwoMayors borough = new TwoMayors();
        for (int i = 1; i < lines.length; i++) {
            Matcher writing = WRITING.matcher(lines[i]);
            Matcher call = CALL.matcher(lines[i]);
            if (writing.matches()) {
                for (char letter : writing.group(1).toCharArray()) {
                    borough.write(letter);
                }
            } else if (call.matches()) {
                Check.due("README.md: " + lines[i], answer(borough, call.group(1), call.group(2)), told(call.group(3)));
            } else {
                Check.due("README.md: can not be read: " + lines[i], 0, 1);
            }
        }
    }

    private static int answer(TwoMayors borough, String name, String numbers) throws ReflectiveOperationException {
        List<Object> given = new ArrayList<>();
        for (String number : numbers.split(",")) {
            if (!number.isBlank()) {
                given.add(Integer.valueOf(number.trim()));
            }
        }
        return (Integer) CALLS.get(name).invoke(borough, given.toArray());
    }

    private static int told(String answer) {
        return NAMES.containsKey(answer) ? NAMES.get(answer) : Integer.parseInt(answer);
    }

    private static void names(String readme) {
        for (String name : CALLS.keySet()) {
            Check.due("README.md names " + name, readme.contains("`" + name + "`") ? 1 : 0, 1);
        }
        for (Map.Entry<String, Integer> name : NAMES.entrySet()) {
            String row = "\\| " + name.getValue() + " +\\| `" + name.getKey() + "` +\\|";
            Check.due("README.md tells what " + name.getKey() + " means", Pattern.compile(row).matcher(readme).find() ? 1 : 0, 1);
        }
    }
}
