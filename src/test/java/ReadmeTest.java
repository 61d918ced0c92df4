import java.lang.reflect.Field;
import java.lang.reflect.Method;
import java.lang.reflect.Modifier;
import java.nio.file.Files;
import java.nio.file.Path;
import java.util.ArrayList;
import java.util.HashMap;
import java.util.List;
import java.util.Map;
import java.util.regex.Matcher;
import java.util.regex.Pattern;

/** README.md: each line of its Java is run and answers what stands behind it; each call, constant and test is told there. */
public final class ReadmeTest {
    private static final Path README = Path.of("README.md"), TESTS = Path.of("src/test/java");
    private static final Pattern MAKING = Pattern.compile("ElevenParts x = new ElevenParts\\(\\);");
    private static final Pattern CALLING = Pattern.compile("(?:(?:int|long) (\\w+) = )?x\\.(\\w+)\\(([^()]*)\\); *// (-?\\d+|[A-Z]+): .+");

    private static final Map<String, Method> methods = new HashMap<>();
    /** What an argument or an answer may be called: constants, and names that lines have given. */
    private static final Map<String, Long> named = new HashMap<>();
    private static ElevenParts x;
    private static int run = 0;
    private static int wrong = 0;

    public static void main(String[] args) throws Exception {
        for (Method m : ElevenParts.class.getDeclaredMethods()) if (Modifier.isPublic(m.getModifiers())) methods.put(m.getName(), m);
        for (Field f : ElevenParts.class.getDeclaredFields()) {
            if (Modifier.isPublic(f.getModifiers())) {
                named.put(f.getName(), (long) f.getInt(null));
                named.put("ElevenParts." + f.getName(), (long) f.getInt(null));
            }
        }
        String text = Files.readString(README);
        allIsTold(text);
        Matcher block = Pattern.compile("```java\n(.*?)```", Pattern.DOTALL).matcher(text);
        while (block.find()) {
            for (String line : block.group(1).split("\n")) if (!line.isBlank()) runLine(line.trim());
        }
        if (run == 0) fail("README.md has no example");
        System.out.println(wrong == 0 ? run + " lines of README.md answer as told" : wrong + " things in README.md are not as told");
        if (wrong != 0) System.exit(1);
    }

    private static void fail(String what) {
        wrong++;
        System.out.println(what);
    }

    private static void runLine(String line) throws Exception {
        if (MAKING.matcher(line).matches()) {
            x = new ElevenParts();
            return;
        }
        Matcher m = CALLING.matcher(line);
        if (!m.matches() || x == null || !methods.containsKey(m.group(2))) {
            fail("not a call with its answer: " + line);
            return;
        }
        List<Object> given = new ArrayList<>();
        for (String word : m.group(3).split(",")) if (!word.isBlank()) given.add((int) number(word.trim()));
        long got = ((Number) methods.get(m.group(2)).invoke(x, given.toArray())).longValue();
        run++;
        if (got != number(m.group(4))) fail(line + " -- answered " + got);
        if (m.group(1) != null) named.put(m.group(1), got);
    }

    private static long number(String word) { return named.containsKey(word) ? named.get(word) : Long.decode(word); }

    private static void allIsTold(String text) throws Exception {
        for (String name : methods.keySet()) if (!text.contains("`" + name + "`")) fail("README.md does not tell of the call " + name);
        for (String name : named.keySet()) {
            if (!name.contains(".") && !text.contains("`" + name + "`")) fail("README.md does not tell of the constant " + name);
        }
        try (var files = Files.list(TESTS)) {
            for (Path file : files.toList()) {
                String name = file.getFileName().toString().replace(".java", "");
                if (name.endsWith("Test") && !text.contains("`" + name + "`")) fail("README.md does not tell of the test " + name);
            }
        }
    }
}
