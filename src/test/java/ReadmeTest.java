import java.io.IOException;
import java.lang.reflect.Method;
import java.nio.file.Files;
import java.nio.file.Path;
import java.util.HashMap;
import java.util.Map;
import java.util.regex.Matcher;
import java.util.regex.Pattern;

/** README.md's calls answer what it tells of them: the number that begins the comment behind each. */
final class ReadmeTest {
    private static final String NEW = "BelievedByYard x = new BelievedByYard();";
    private static final Pattern CALL =
        Pattern.compile("(?:int (\\w+) = )?x\\.(\\w+)\\((.*?)\\);\\s*// (-?\\d+)(?:: .*)?");

    private BelievedByYard x;
    private final Map<String, Integer> named = new HashMap<>();

    public static void main(String[] args) throws IOException, ReflectiveOperationException {
        String readme = Files.readString(Path.of("README.md"));
        int blocks = 0;
        Matcher block = Pattern.compile("(?s)```java\n(.*?)```").matcher(readme);
        while (block.find()) {
            blocks++;
            ReadmeTest test = new ReadmeTest();
            for (String line : block.group(1).split("\n")) {
                test.run(line);
            }
        }
        Due.isTrue("README.md has calls to show", blocks > 0);
        everyTestIsNamed(readme);
        Due.end();
    }

    private void run(String line) throws ReflectiveOperationException {
        if (line.equals(NEW)) {
            x = new BelievedByYard();
            return;
        }
        Matcher call = CALL.matcher(line);
        boolean isCall = call.matches();
        Due.isTrue("a call with its answer: " + line, isCall);
        if (!isCall) {
            return;
        }
        int got = answer(call.group(2), call.group(3));
        Due.is(line, got, Integer.parseInt(call.group(4)));
        named.put(String.valueOf(call.group(1)), got);
    }

    private int answer(String act, String words) throws ReflectiveOperationException {
        for (Method m : BelievedByYard.class.getMethods()) {
            if (m.getName().equals(act)) {
                String[] parts = words.isEmpty() ? new String[] {} : words.split(", ");
                Object[] numbers = new Object[parts.length];
                for (int i = 0; i < parts.length; i++) {
                    long number = number(parts[i]);
                    boolean isLong = m.getParameterTypes()[i] == long.class;
                    numbers[i] = isLong ? (Object) number : (Object) (int) number;
                }
                return (int) m.invoke(x, numbers);
            }
        }
        throw new NoSuchMethodException(act);
    }

    private long number(String word) {
        return named.containsKey(word) ? named.get(word) : Long.decode(word.replace("L", ""));
    }

    private static void everyTestIsNamed(String readme) {
        String[] names = Path.of("src/test/java").toFile().list((folder, name) -> name.endsWith("Test.java"));
        for (String name : names) {
            Due.isTrue("README.md names " + name, readme.contains("| " + name.replace(".java", "") + " |"));
        }
    }
}
