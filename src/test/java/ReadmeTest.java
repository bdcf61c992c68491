import java.nio.file.Files;
import java.nio.file.Path;
import java.util.regex.Matcher;
import java.util.regex.Pattern;

/** What README.md tells holds: its example answers what stands behind it, and it names every call and every test. */
public final class ReadmeTest {
    private static int wrong = 0;

    public static void main(String[] args) throws Exception {
        String readme = Files.readString(Path.of("README.md"));
        example(readme);
        for (java.lang.reflect.Method m : PloughDepot.class.getDeclaredMethods()) {
            boolean isPublic = java.lang.reflect.Modifier.isPublic(m.getModifiers());
            due(!isPublic || readme.contains("`" + m.getName() + "("), "README.md does not name " + m.getName());
        }
        try (java.util.stream.Stream<Path> files = Files.list(Path.of("src/test/java"))) {
            files.map(f -> f.getFileName().toString().replace(".java", "")).filter(f -> f.endsWith("Test"))
                .forEach(f -> due(readme.contains("`" + f + "`"), "README.md does not name " + f));
        }
        System.out.println(wrong == 0 ? "README.md tells what is so" : wrong + " things in README.md are not so");
        if (wrong != 0) {
            System.exit(1);
        }
    }

    private static void due(boolean is, String otherwise) {
        if (!is) {
            wrong++;
            System.out.println(otherwise);
        }
    }

    /** Each line of the example is a call with its answer behind it. */
    private static void example(String readme) throws Exception {
        Matcher block = Pattern.compile("(?s)```java\n(.*?)```").matcher(readme);
        due(block.find(), "there is no example");
        PloughDepot depot = new PloughDepot();
        int calls = 0;
        for (String line : block.group(1).split("\n")) {
            if (line.isBlank() || line.equals("PloughDepot depot = new PloughDepot();")) {
                continue;
            }
            Matcher call = Pattern.compile("depot\\.(\\w+)\\((.*?)\\); +// (-?\\d+)\\b.*").matcher(line);
            if (!call.matches()) {
                due(false, "no call with its answer: " + line);
                continue;
            }
            String[] values = call.group(2).isEmpty() ? new String[0] : call.group(2).split(", ");
            int got = Calls.answer(depot, call.group(1), values);
            due(got == Integer.parseInt(call.group(3)), line + " answered " + got);
            calls++;
        }
        due(calls > 10, "the example has only " + calls + " calls");
    }
}
