import java.io.IOException;
import java.nio.file.Files;
import java.nio.file.Path;
import java.util.HashMap;
import java.util.Map;
import java.util.regex.Matcher;
import java.util.regex.Pattern;

/** README.md tells of every call, and its example answers as it says there. */
public final class ReadmeTest {
    private static final Due DUE = new Due();
    private static final Pattern EXAMPLE = Pattern.compile("(?:int (\\w+) = )?x\\.(\\w+)\\(([^)]*)\\); +// (-?\\d+).*");

    public static void main(String[] args) throws IOException, ReflectiveOperationException {
        Path path = Path.of(System.getProperty("fallwith.source", "src/main/java/FallWith.java"));
        String source = Files.readString(path);
        String readme = Files.readString(path.toAbsolutePath().resolve("../../../../README.md").normalize());
        calls(source, readme);
        example(readme);
        DUE.close();
    }

    private static void calls(String source, String readme) {
        Matcher call = Pattern.compile("public int (\\w+)\\(([^)]*)\\) \\{").matcher(source);
        int found = 0;
        while (call.find()) {
            found++;
            String told = call.group(1) + "(" + call.group(2).replace("int ", "") + ")";
            DUE.holds("README.md tells of " + told, readme.contains("`" + told + "`"));
        }
        DUE.is("calls of the face", found, 24);
    }

    private static void example(String readme) throws ReflectiveOperationException {
        FallWith x = new FallWith();
        Map<String, Integer> named = new HashMap<>();
        int made = 0;
        for (String line : readme.substring(readme.indexOf("```java"), readme.indexOf("```\n")).split("\n")) {
            Matcher call = EXAMPLE.matcher(line);
            if (call.matches()) {
                made++;
                int got = answer(x, call.group(2), call.group(3), named);
                named.put(String.valueOf(call.group(1)), got);
                DUE.is(line, got, Integer.parseInt(call.group(4)));
            }
        }
        DUE.is("calls of the example", made, 14);
    }

    private static int answer(FallWith x, String name, String arguments, Map<String, Integer> named) throws ReflectiveOperationException {
        String[] each = arguments.split(", ");
        Class<?>[] kinds = new Class<?>[each.length];
        Object[] numbers = new Object[each.length];
        for (int k = 0; k < each.length; k++) {
            kinds[k] = int.class;
            numbers[k] = each[k].startsWith("'") ? Integer.valueOf(each[k].charAt(1)) : named.containsKey(each[k])
                    ? named.get(each[k]) : Integer.valueOf(each[k]);
        }
        return (int) FallWith.class.getMethod(name, kinds).invoke(x, numbers);
    }
}
