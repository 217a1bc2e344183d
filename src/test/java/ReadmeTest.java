import java.lang.reflect.Method;
import java.nio.file.Files;
import java.nio.file.Path;
import java.util.ArrayList;
import java.util.List;
import java.util.Set;
import java.util.TreeSet;
import java.util.regex.Matcher;
import java.util.regex.Pattern;

/** The run on README.md answers as the page says, and the page names every call of the face and every test. */
public final class ReadmeTest {
    private static final Path PAGE = Path.of("README.md");
    private static final Path TESTS = Path.of("src/test/java");
    private static final Pattern LINE = Pattern.compile("cache\\.(\\w+)\\((.*)\\); +// (\\S+?)(:.*)?");

    private ReadmeTest() {
    }

    public static void main(String[] args) throws Exception {
        String page = Files.readString(PAGE);
        runsAsThePageSays(page.substring(page.indexOf("```java\n") + 8, page.indexOf("\n```\n")).split("\n"));
        namesAll(page);
        Check.end("ReadmeTest");
    }

    private static void runsAsThePageSays(String[] lines) throws ReflectiveOperationException {
        Check.due("SlipstreamCache cache = new SlipstreamCache();", lines[0]);
        SlipstreamCache cache = new SlipstreamCache();
        for (int at = 1; at < lines.length; at++) {
            Matcher line = LINE.matcher(lines[at]);
            if (line.matches()) {
                Object answer = call(cache, line.group(1), line.group(2));
                Check.due(lines[at] + line.group(3), lines[at] + (answer instanceof Character ? "'" + answer + "'" : answer));
            } else {
                Check.tell("this line is not read: " + lines[at]);
            }
        }
        Check.due(true, lines.length > 20);
    }

    private static Object call(SlipstreamCache cache, String name, String texts) throws ReflectiveOperationException {
        List<Object> arguments = new ArrayList<>();
        for (String text : texts.isEmpty() ? new String[0] : texts.split(", ")) {
            if (text.equals("cache.lease()")) {
                arguments.add(cache.lease());
            } else if (text.startsWith("'")) {
                arguments.add(text.charAt(1));
            } else {
                arguments.add(Integer.parseInt(text));
            }
        }
        return named(name).invoke(cache, arguments.toArray());
    }

    private static Method named(String name) throws NoSuchMethodException {
        for (Method method : SlipstreamCache.class.getMethods()) {
            if (method.getName().equals(name)) {
                return method;
            }
        }
        throw new NoSuchMethodException(name);
    }

    private static void namesAll(String page) throws Exception {
        Set<String> names = new TreeSet<>();
        for (Method method : SlipstreamCache.class.getMethods()) {
            if (method.getDeclaringClass() == SlipstreamCache.class) {
                names.add(method.getName());
            }
        }
        try (var files = Files.list(TESTS)) {
            files.map(file -> file.getFileName().toString().replace(".java", ""))
                    .filter(name -> name.endsWith("Test")).forEach(names::add);
        }
        for (String name : names) {
            Check.due(name + " true", name + " " + page.contains("`" + name + "`"));
        }
    }
}
