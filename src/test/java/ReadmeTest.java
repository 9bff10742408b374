import java.io.IOException;
import java.lang.reflect.Method;
import java.lang.reflect.Modifier;
import java.nio.file.Files;
import java.nio.file.Path;
import java.util.List;
import java.util.regex.Matcher;
import java.util.regex.Pattern;
import java.util.stream.Collectors;
import java.util.stream.Stream;

/** README.md tells how to use the class: what it tells has to be so. */
public final class ReadmeTest {
    private static final Pattern EXAMPLE = Pattern.compile("(?s)```java\n(.*?)```");
    private static final Pattern CALL = Pattern.compile("game\\.(\\w+)\\((.*?)\\); +// (-?\\d+): .+");
    private static final Check CHECK = new Check("ReadmeTest");

    public static void main(String[] args) throws IOException, ReflectiveOperationException {
        String page = Files.readString(Path.of("README.md"));
        example(page);
        everyCallIsNamed(page);
        everyTestIsNamed(page);
        CHECK.end();
    }

    private static void example(String page) throws ReflectiveOperationException {
        Matcher example = EXAMPLE.matcher(page);
        CHECK.isSo("an example", example.find());
        List<String> lines = example.group(1).lines().toList();
        CHECK.isSo("it begins with a new object",
            lines.get(0).equals("TailorChalks game = new TailorChalks();"));
        TailorChalks game = new TailorChalks();
        for (String line : lines.subList(1, lines.size())) {
            Matcher call = CALL.matcher(line);
            CHECK.isSo("a call with its answer: " + line, call.matches());
            if (call.matches()) {
                CHECK.due(line, answer(game, call.group(1), call.group(2)), Long.parseLong(call.group(3)));
            }
        }
    }

    private static long answer(TailorChalks game, String name, String numbers) throws ReflectiveOperationException {
        Object[] arguments = parts(numbers).map(Integer::decode).toArray();
        for (Method method : TailorChalks.class.getMethods()) {
            if (method.getName().equals(name)) {
                return (int) method.invoke(game, arguments);
            }
        }
        throw new NoSuchMethodException(name);
    }

    private static Stream<String> parts(String list) {
        return Stream.of(list.split(", *")).filter(part -> !part.isEmpty());
    }

    private static void everyCallIsNamed(String page) {
        for (Method method : TailorChalks.class.getDeclaredMethods()) {
            if (Modifier.isPublic(method.getModifiers())) {
                Matcher named = Pattern.compile("`" + method.getName() + "\\(([^)]*)\\)`").matcher(page);
                boolean found = named.find();
                CHECK.isSo(method.getName() + " is in the list", found);
                String names = found ? named.group(1) : "";
                CHECK.due("parameters of " + method.getName(), parts(names).count(), method.getParameterCount());
            }
        }
    }

    private static void everyTestIsNamed(String page) throws IOException {
        try (Stream<Path> files = Files.list(Path.of("src/test/java"))) {
            List<String> names = files.map(file -> file.getFileName().toString().replace(".java", ""))
                .filter(name -> name.endsWith("Test")).collect(Collectors.toList());
            for (String name : names) {
                CHECK.isSo(name + " is in the list", page.contains("`" + name + "`"));
            }
        }
    }
}
