import java.lang.reflect.Field;
import java.lang.reflect.Method;
import java.lang.reflect.Modifier;
import java.nio.file.Files;
import java.nio.file.Path;
import java.util.ArrayList;
import java.util.Arrays;
import java.util.List;
import java.util.TreeSet;
import java.util.regex.Matcher;
import java.util.regex.Pattern;
import java.util.stream.Collectors;
import java.util.stream.Stream;

/**
 * The document itself (../shared/DOC.md, found from argument 1, the path of the class): the class has its face, the
 * tests quote it word for word, and each promise is quoted by some test.
 */
public final class DocTest {
    private static final Due due = new Due("DocTest");
    private static final int PROMISES = 37;
    private static final Pattern QUOTE = Pattern.compile("\\bsays\\(((?:\\s*\"(?:[^\"\\\\]|\\\\.)*\"\\s*\\+?)+)\\)");
    private static final Pattern LITERAL = Pattern.compile("\"((?:[^\"\\\\]|\\\\.)*)\"");

    public static void main(String[] args) throws Exception {
        Path root = Path.of(args[0]).toAbsolutePath().getParent().getParent().getParent().getParent();
        Path file = root.resolve("../shared/DOC.md");
        if (!Files.exists(file)) {
            // nothing of the class is wrong where the document is kept elsewhere
            System.out.println("DocTest: " + file + " is not there, so nothing was looked at");
            return;
        }
        String doc = Files.readString(file);
        face(doc);
        quotes(doc.replaceAll("\\s+", " "), quotesUnder(root.resolve("src/test/java")));
        due.end();
    }

    private static void face(String doc) {
        String block = between(doc, "```java\n", "```");
        TreeSet<String> told = new TreeSet<>();
        Matcher call = Pattern.compile("public (int|long) (\\w+)\\(([^)]*)\\);").matcher(block);
        while (call.find()) {
            told.add(call.group(1) + " " + call.group(2) + "(" + call.group(3).replaceAll(" \\w+(,|$)", "$1") + ")");
        }
        TreeSet<String> there = new TreeSet<>();
        for (Method m : CrowMiles.class.getDeclaredMethods()) {
            if (Modifier.isPublic(m.getModifiers())) {
                there.add(m.getReturnType() + " " + m.getName()
                        + Arrays.stream(m.getParameterTypes()).map(Class::getName).collect(Collectors.joining(", ", "(", ")")));
            }
        }
        due.same("the calls of the class", there.toString(), told.toString());
        due.is("calls that the document's face has", told.size(), PROMISES - 1);
        constants(between(block, "public static final int ", ";"));
    }

    private static void constants(String told) {
        List<String> there = new ArrayList<>();
        for (Field f : CrowMiles.class.getFields()) {
            there.add(f.getName() + " = " + valueOf(f));
        }
        TreeSet<String> want = new TreeSet<>(Arrays.asList(told.split(", ")));
        due.same("the constants of the class", new TreeSet<>(there).toString(), want.toString());
    }

    private static String valueOf(Field constant) {
        try {
            return String.valueOf(constant.get(null));
        } catch (IllegalAccessException e) {
            return "not to be seen";
        }
    }

    private static void quotes(String doc, List<String> quotes) {
        due.holds("there are quotes", !quotes.isEmpty());
        for (String quote : quotes) {
            due.holds("the document says \"" + quote + "\"", doc.contains(quote));
        }
        for (int promise = 1; promise <= PROMISES; promise++) {
            String own = between(doc, "## Promise " + promise + ":", "##");
            due.holds("a test quotes promise " + promise, quotes.stream().anyMatch(own::contains));
        }
    }

    private static List<String> quotesUnder(Path folder) throws Exception {
        List<Path> files;
        try (Stream<Path> all = Files.list(folder)) {
            files = all.filter(f -> f.toString().endsWith(".java")).sorted().collect(Collectors.toList());
        }
        List<String> quotes = new ArrayList<>();
        for (Path file : files) {
            Matcher quote = QUOTE.matcher(Files.readString(file));
            while (quote.find()) {
                StringBuilder words = new StringBuilder();
                Matcher literal = LITERAL.matcher(quote.group(1));
                while (literal.find()) {
                    words.append(literal.group(1).translateEscapes());
                }
                quotes.add(words.toString());
            }
        }
        return quotes;
    }

    private static String between(String text, String open, String close) {
        int from = text.indexOf(open);
        due.holds("the document has " + open.trim(), from >= 0);
        int start = Math.max(from, 0) + open.length();
        int end = text.indexOf(close, start);
        return text.substring(Math.min(start, text.length()), end < 0 ? text.length() : end);
    }
}
