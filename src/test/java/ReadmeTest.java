import java.lang.reflect.Method;
import java.lang.reflect.Modifier;
import java.nio.file.DirectoryStream;
import java.nio.file.Files;
import java.nio.file.Path;
import java.util.Set;
import java.util.TreeSet;
import java.util.regex.Matcher;
import java.util.regex.Pattern;

/** Makes the calls that README.md shows and compares their answers with those that it tells. */
public final class ReadmeTest {
    private static final Path README = Path.of("README.md");
    private static final Path TESTS = Path.of("src", "test", "java");
    private static final Pattern BLOCK = Pattern.compile("(?s)```java\n(.*?)```");
    private static final Pattern CALL = Pattern.compile("p\\.(\\w+)\\(([^)]*)\\); +// (-?\\d+|[A-Z]+)(: .*)?");
    private static final String NEW_OBJECT = "PicturePath p = new PicturePath();";
    private static final String[] CONSTANTS = {"NONE", "UNKNOWN", "OUTSIDE", "STATE", "FULL"};

    private static final Dues dues = new Dues();
    private static final Set<String> called = new TreeSet<>();
    private static final Set<String> constantsTold = new TreeSet<>();
    private static PicturePath p;

    public static void main(String[] args) throws Exception {
        String readme = Files.readString(README);
        dues.about("README.md, its example");
        Matcher block = BLOCK.matcher(readme);
        while (block.find()) {
            for (String line : block.group(1).split("\n")) {
                play(line.strip());
            }
        }
        eachCallIsShown();
        eachTestIsListed(readme);
        dues.end();
    }

    private static void play(String line) throws Exception {
        if (line.isEmpty()) {
            return;
        }
        if (line.equals(NEW_OBJECT)) {
            p = new PicturePath();
            return;
        }
        Matcher call = CALL.matcher(line);
        boolean understood = call.matches() && p != null;
        dues.holds("a call on an object, and its answer: " + line, understood);
        if (understood) {
            called.add(call.group(1));
            dues.due(line, answer(call.group(1), call.group(2)), told(call.group(3)));
        }
    }

    private static long answer(String name, String written) throws Exception {
        String[] words = written.isEmpty() ? new String[0] : written.split(", ");
        for (Method m : PicturePath.class.getDeclaredMethods()) {
            if (m.getName().equals(name) && Modifier.isPublic(m.getModifiers())) {
                return ((Number) m.invoke(p, arguments(m.getParameterTypes(), words))).longValue();
            }
        }
        throw new IllegalArgumentException("README.md calls " + name + ", which there is not");
    }

    private static Object[] arguments(Class<?>[] types, String[] words) {
        if (types.length != words.length) {
            throw new IllegalArgumentException("README.md tells " + words.length + " arguments instead of " + types.length);
        }
        Object[] all = new Object[types.length];
        for (int i = 0; i < types.length; i++) {
            all[i] = types[i] == boolean.class ? (Object) Boolean.valueOf(words[i]) : (Object) Integer.valueOf(words[i]);
        }
        return all;
    }

    private static long told(String answer) throws Exception {
        if (!Character.isLetter(answer.charAt(0))) {
            return Long.parseLong(answer);
        }
        constantsTold.add(answer);
        return PicturePath.class.getField(answer).getInt(null);
    }

    private static void eachCallIsShown() {
        for (Method m : PicturePath.class.getDeclaredMethods()) {
            if (Modifier.isPublic(m.getModifiers())) {
                dues.holds("shows " + m.getName(), called.contains(m.getName()));
            }
        }
        for (String constant : CONSTANTS) {
            dues.holds("shows " + constant, constantsTold.contains(constant));
        }
    }

    private static void eachTestIsListed(String readme) throws Exception {
        dues.about("README.md, how to run the tests");
        dues.holds("names .ci/run", readme.contains("\n    .ci/run\n"));
        try (DirectoryStream<Path> tests = Files.newDirectoryStream(TESTS, "*.java")) {
            for (Path test : tests) {
                String name = test.getFileName().toString().replace(".java", "");
                dues.holds("lists " + name, Pattern.compile("\\b" + name + "\\b").matcher(readme).find());
            }
        }
        Matcher named = Pattern.compile("src/test/java/(\\w+\\.java)").matcher(readme);
        while (named.find()) {
            dues.holds("there is " + named.group(1), Files.exists(TESTS.resolve(named.group(1))));
        }
    }
}
