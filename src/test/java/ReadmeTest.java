import java.io.IOException;
import java.lang.reflect.Method;
import java.lang.reflect.Modifier;
import java.nio.file.Files;
import java.nio.file.Path;
import java.util.List;
import java.util.regex.Matcher;
import java.util.regex.Pattern;
import java.util.stream.Stream;

/** README.md as it stands: its example answers what it tells, and it names every call and every test. */
public final class ReadmeTest {
    private static final Pattern EXAMPLE = Pattern.compile("(?s)```java\n(.*?)```");
    private static final Pattern TEXT = Pattern.compile("for \\(char c : \"([^\"]*)\"");
    private static final Pattern CALL = Pattern.compile("(?m)^x\\.(\\w+)\\(([^)]*)\\);\\s*//\\s*(-?\\d+)\\b");

    private static int checks;
    private static int wrong;

    public static void main(String[] args) throws IOException, ReflectiveOperationException {
        String readme = Files.readString(Path.of("README.md"));
        example(readme);
        everyCall(section(readme, "### The calls"));
        everyTest(section(readme, "## Tests"));
        System.out.println("ReadmeTest: " + checks + " checks, " + wrong + " wrong");
        if (wrong != 0) {
            System.exit(1);
        }
    }

    private static void holds(String what, boolean right) {
        checks++;
        if (!right) {
            wrong++;
            System.out.println("README.md: " + what);
        }
    }

    private static String section(String readme, String head) {
        int from = readme.indexOf("\n" + head + "\n");
        holds("it has no part " + head, from >= 0);
        if (from < 0) {
            return "";
        }
        int to = readme.indexOf("\n#", from + head.length());
        return to < 0 ? readme.substring(from) : readme.substring(from, to);
    }

    private static void example(String readme) throws ReflectiveOperationException {
        Matcher block = EXAMPLE.matcher(readme);
        holds("it has no example", block.find());
        String code = block.group(1);
        ThumbScale x = new ThumbScale();
        Matcher text = TEXT.matcher(code);
        holds("its example types nothing", text.find());
        for (char c : text.group(1).toCharArray()) {
            x.type(c, 1);
        }
        int calls = 0;
        Matcher call = CALL.matcher(code);
        while (call.find()) {
            calls++;
            long got = answer(x, call.group(1), call.group(2));
            holds(call.group() + ": the answer is " + got, got == Long.parseLong(call.group(3)));
        }
        long asked = code.lines().filter(line -> line.startsWith("x.")).count();
        holds("each call of the example tells its answer", calls == asked && calls > 0);
    }

    private static long answer(ThumbScale x, String name, String arguments) throws ReflectiveOperationException {
        Method method = face().stream().filter(m -> m.getName().equals(name)).findFirst().orElseThrow();
        String[] told = arguments.isBlank() ? new String[0] : arguments.split(",");
        Object[] given = new Object[told.length];
        for (int i = 0; i < told.length; i++) {
            long number = Long.parseLong(told[i].trim());
            if (method.getParameterTypes()[i] == long.class) {
                given[i] = number;
            } else {
                given[i] = (int) number;
            }
        }
        return ((Number) method.invoke(x, given)).longValue();
    }

    private static List<Method> face() {
        return Stream.of(ThumbScale.class.getDeclaredMethods())
                .filter(m -> Modifier.isPublic(m.getModifiers())).toList();
    }

    private static void everyCall(String part) {
        for (Method m : face()) {
            holds("its table has no call " + m.getName(), part.contains("`" + m.getName() + "`"));
        }
        long named = Pattern.compile("`\\w+`").matcher(part.substring(0, Math.max(0, part.lastIndexOf('|')))).results().count();
        holds("its table has " + named + " calls, the face " + face().size(), named == face().size());
    }

    private static void everyTest(String part) throws IOException {
        try (Stream<Path> files = Files.list(Path.of("src/test/java"))) {
            for (Path file : files.sorted().toList()) {
                String name = file.getFileName().toString().replace(".java", "");
                holds("it has no test " + name, part.contains("`" + name + "`"));
            }
        }
        Matcher named = Pattern.compile("`(\\w+Test)`").matcher(part);
        while (named.find()) {
            holds("there is no " + named.group(1), Files.exists(Path.of("src/test/java/" + named.group(1) + ".java")));
        }
    }
}
