import java.lang.reflect.Constructor;
import java.lang.reflect.Field;
import java.lang.reflect.Method;
import java.lang.reflect.Modifier;
import java.nio.file.Files;
import java.nio.file.Path;
import java.util.Arrays;
import java.util.Set;
import java.util.TreeSet;
import java.util.regex.Matcher;
import java.util.regex.Pattern;

/** The public face is that of the document, and the file keeps to the rules of the language that can be seen. */
public final class FaceTest {
    private static final Path SOURCE = Path.of("src/main/java/SlipstreamCache.java");
    private static final Path DOCUMENT = Path.of("../shared/DOC.md");

    public static void main(String[] args) throws Exception {
        faceIsThatOfTheDocument();
        otherMembersArePrivate();
        sourceKeepsToTheLanguage(Files.readString(SOURCE));
        callsMakeNothing(Files.readString(SOURCE).split("\n"));
        methodsAreShort(Files.readString(SOURCE).split("\n"));
        Check.end("FaceTest");
    }

    private static void faceIsThatOfTheDocument() throws Exception {
        Set<String> want = new TreeSet<>();
        Matcher line = Pattern.compile("public (\\w+) (\\w+)\\((.*?)\\)( throws (.*?))?;").matcher(Files.readString(DOCUMENT));
        while (line.find()) {
            String types = line.group(3).replaceAll("(\\w+) \\w+", "$1").replace(" ", "");
            String thrown = line.group(5) == null ? "" : line.group(5).replace(" ", "");
            want.add(line.group(1) + " " + line.group(2) + "(" + types + ") " + thrown);
        }
        Check.due(31, want.size());
        Set<String> got = new TreeSet<>();
        for (Method method : SlipstreamCache.class.getDeclaredMethods()) {
            if (Modifier.isPublic(method.getModifiers())) {
                Check.due(false, Modifier.isStatic(method.getModifiers()));
                got.add(method.getReturnType().getSimpleName() + " " + method.getName()
                        + "(" + names(method.getParameterTypes()) + ") " + names(method.getExceptionTypes()));
            }
        }
        Check.due(want, got);
        Constructor<?>[] constructors = SlipstreamCache.class.getDeclaredConstructors();
        Check.due(1, constructors.length);
        Check.due(0, constructors[0].getParameterCount());
        Check.due(true, Modifier.isPublic(constructors[0].getModifiers()));
        Check.due(true, Modifier.isFinal(SlipstreamCache.class.getModifiers()));
    }

    private static String names(Class<?>[] types) {
        StringBuilder names = new StringBuilder();
        for (Class<?> type : types) {
            names.append(names.length() == 0 ? "" : ",").append(type.getSimpleName());
        }
        return names.toString();
    }

    private static void otherMembersArePrivate() {
        Set<String> publicNames = new TreeSet<>();
        for (Method method : SlipstreamCache.class.getDeclaredMethods()) {
            if (Modifier.isPublic(method.getModifiers())) {
                publicNames.add(method.getName());
            }
        }
        for (Method method : SlipstreamCache.class.getDeclaredMethods()) {
            if (!Modifier.isPublic(method.getModifiers())) {
                Check.due(true, Modifier.isPrivate(method.getModifiers()));
                Check.due(false, publicNames.contains(method.getName()));
            }
        }
        int ownFields = 0;
        for (Field field : SlipstreamCache.class.getDeclaredFields()) {
            Check.due(true, Modifier.isPrivate(field.getModifiers()));
            Check.due(true, !Modifier.isStatic(field.getModifiers()) || Modifier.isFinal(field.getModifiers()));
            ownFields += Modifier.isStatic(field.getModifiers()) ? 0 : 1;
        }
        Check.due(true, ownFields <= 20);
        Class<?>[] inside = SlipstreamCache.class.getDeclaredClasses();
        Check.due(true, inside.length <= 12);
        for (Class<?> one : inside) {
            Check.due(true, Modifier.isStatic(one.getModifiers()) && !Modifier.isPublic(one.getModifiers()));
            staysSmall(one);
        }
        staysSmall(SlipstreamCache.class);
    }

    private static void staysSmall(Class<?> one) {
        Check.due(true, Arrays.stream(one.getDeclaredFields())
                .filter(field -> !Modifier.isStatic(field.getModifiers())).count() <= 20);
        for (Method method : one.getDeclaredMethods()) {
            Check.due(true, method.getParameterCount() <= 7);
        }
    }

    /** Rows are made by the constructors alone, so that no call makes an object, but for what it throws. */
    private static void callsMakeNothing(String[] lines) {
        for (String line : lines) {
            boolean isInConstructor = line.matches("            \\w+ = new int\\[length\\];");
            boolean isField = line.matches(" {4,8}(private )?final \\w+(\\[\\])? \\w+ = new .*");
            if (line.contains("new ") && !line.contains("throw new ") && !line.trim().startsWith("/")) {
                Check.due(line + true, line + (isInConstructor || isField));
            }
        }
    }

    /** A method ends with the brace that stands as far in as it begins. */
    private static void methodsAreShort(String[] lines) {
        int methods = 0;
        for (int at = 0; at < lines.length; at++) {
            if (lines[at].matches(" {4,8}[a-z][^=;]* \\w+\\(.*") && !lines[at].trim().matches("(if|for|return|throw) .*")) {
                String brace = lines[at].replaceAll("\\S.*", "") + "}";
                int end = at;
                while (end < lines.length - 1 && !lines[end].equals(brace)) {
                    end++;
                }
                methods++;
                Check.due(lines[at] + true, lines[at] + (end - at < 60));
            }
        }
        Check.due(true, methods > 31);
    }

    private static void sourceKeepsToTheLanguage(String source) {
        String[] forbidden = {"->", "::", "catch", "finally", "synchronized", "assert", "Exact", "package ",
            "System.", "Math.random", "Object ", "extends ", "import java.io", "import java.util.*", "/ 0", "@"};
        for (String sign : forbidden) {
            Check.due(sign + " false", sign + " " + source.contains(sign));
        }
        Check.due(1L, Arrays.stream(source.split("\n")).filter(line -> line.startsWith("import ")).count());
        Check.due(true, source.chars().allMatch(sign -> sign < 128));
        Matcher thrown = Pattern.compile("throw (.*?);").matcher(source);
        while (thrown.find()) {
            Check.due(true, thrown.group(1).matches("new (IllegalState|IllegalArgument|IndexOutOfBounds|Arithmetic"
                    + "|UnsupportedOperation|NoSuchElement)Exception\\(\"[a-z ,]+\"\\)"));
        }
        Check.due(false, Pattern.compile("\"\\s*\\+|\\+\\s*\"").matcher(source).find());
    }
}
