import java.lang.reflect.Method;
import java.lang.reflect.Modifier;
import java.net.URL;
import java.net.URLClassLoader;
import java.nio.file.Files;
import java.nio.file.Path;
import java.util.ArrayList;
import java.util.List;
import java.util.regex.Matcher;
import java.util.regex.Pattern;
import java.util.stream.Collectors;
import java.util.stream.Stream;
import javax.tools.ToolProvider;

/** README.md (found from argument 1, the path of the class): its examples answer as it says, and it leaves nothing out. */
public final class ReadmeTest {
    private static final Due due = new Due("ReadmeTest");
    private static final Pattern EXAMPLE = Pattern.compile("(?s)```java\n(.*?)```");
    private static final Pattern ANSWERED = Pattern.compile("(?m)^(x\\.[a-z]+\\(.*\\)); *// (-?[0-9]+).*$");

    public static void main(String[] args) throws Exception {
        Path root = Path.of(args[0]).toAbsolutePath().getParent().getParent().getParent().getParent();
        String readme = Files.readString(root.resolve("README.md"));
        examples(readme);
        calls(readme);
        tests(readme, root.resolve("src/test/java"));
        due.end();
    }

    /** Each call with a number behind it is kept together with that number; all else is run as it stands. */
    private static void examples(String readme) throws Exception {
        StringBuilder source = new StringBuilder("public final class Examples {\n"
                + "public static void run(java.util.List<Object[]> answers) {\n");
        Matcher example = EXAMPLE.matcher(readme);
        int found = 0;
        while (example.find()) {
            found++;
            Matcher answered = ANSWERED.matcher(example.group(1));
            source.append("{\n").append(answered.replaceAll("answers.add(new Object[] {\"$1\", (long) $1, $2L});"))
                    .append("}\n");
        }
        due.holds("there are examples", found > 0);
        List<Object[]> answers = new ArrayList<>();
        run(source.append("}\n}\n").toString(), answers);
        for (Object[] answer : answers) {
            due.is((String) answer[0], (Long) answer[1], (Long) answer[2]);
        }
        Matcher told = Pattern.compile("(?m)^x\\..*// *-?[0-9]").matcher(readme);
        due.is("examples with an answer", answers.size(), told.results().count());
    }

    private static void run(String source, List<Object[]> answers) throws Exception {
        Path folder = Files.createTempDirectory("readme");
        Path file = folder.resolve("Examples.java");
        Files.writeString(file, source);
        int code = ToolProvider.getSystemJavaCompiler().run(null, null, null,
                "-cp", System.getProperty("java.class.path"), "-d", folder.toString(), file.toString());
        due.is("the examples compile, exit code", code, 0);
        if (code == 0) {
            try (URLClassLoader loader = new URLClassLoader(new URL[] {folder.toUri().toURL()})) {
                loader.loadClass("Examples").getMethod("run", List.class).invoke(null, answers);
            }
        }
        for (String name : new String[] {"Examples.java", "Examples.class"}) {
            Files.deleteIfExists(folder.resolve(name));
        }
        Files.delete(folder);
    }

    private static void calls(String readme) {
        for (Method call : CrowMiles.class.getDeclaredMethods()) {
            if (Modifier.isPublic(call.getModifiers())) {
                due.holds("README.md tells of " + call.getName(), readme.contains("`" + call.getName() + "("));
            }
        }
    }

    private static void tests(String readme, Path folder) throws Exception {
        List<String> names;
        try (Stream<Path> files = Files.list(folder)) {
            names = files.map(f -> f.getFileName().toString()).filter(n -> n.endsWith("Test.java"))
                    .map(n -> n.substring(0, n.length() - 5)).collect(Collectors.toList());
        }
        for (String name : names) {
            due.holds("README.md has a row for " + name, readme.contains("\n| " + name + " |"));
        }
        Matcher row = Pattern.compile("(?m)^\\| (\\w+Test) \\|").matcher(readme);
        while (row.find()) {
            due.holds(row.group(1) + ", told by README.md, is there", names.contains(row.group(1)));
        }
    }
}
