import java.lang.reflect.Method;
import java.lang.reflect.Modifier;
import java.nio.file.Files;
import java.nio.file.Path;
import java.util.Arrays;
import java.util.Set;
import java.util.TreeSet;
import java.util.regex.Matcher;
import java.util.regex.Pattern;

/** README.md's calls, from its first to its last on one gallery, answer what stands behind them. */
public final class ReadmeTest {
    private static final Pattern TEXT = Pattern.compile("String text = \"(.*)\";");
    private static final Pattern CALL = Pattern.compile("gallery\\.(\\w+)\\(([-0-9, ]*)\\); +// (-?\\d+)(:.*)?");
    private static final Set<String> AROUND = Set.of("CastGallery gallery = new CastGallery();",
        "for (int i = 0; i < text.length(); i++) {", "}");

    private final Check check = new Check();
    private final CastGallery gallery = new CastGallery();
    private final Set<String> told = new TreeSet<>();
    private String text = "";

    public static void main(String[] args) throws Exception {
        ReadmeTest test = new ReadmeTest();
        boolean code = false;
        for (String line : Files.readAllLines(Path.of("README.md"))) {
            if (line.startsWith("```")) {
                code = line.equals("```java");
            } else if (code) {
                test.run(line.strip());
            }
        }
        test.namesAll();
        test.check.end();
    }

    private void run(String line) throws Exception {
        Matcher saysText = TEXT.matcher(line);
        Matcher calls = CALL.matcher(line);
        if (saysText.matches()) {
            text = saysText.group(1);
        } else if (line.equals("gallery.type(text.charAt(i));")) {
            Check.typeAll(gallery, text);
            told.add("type");
        } else if (calls.matches()) {
            int[] given = numbers(calls.group(2));
            check.due("README.md: " + line, answer(calls.group(1), given), Long.parseLong(calls.group(3)));
            told.add(calls.group(1));
        } else {
            check.holds("README.md: a line that this test can read: " + line, AROUND.contains(line));
        }
    }

    private static int[] numbers(String given) {
        return given.isBlank() ? new int[0] : Arrays.stream(given.split(", *")).mapToInt(Integer::parseInt).toArray();
    }

    private long answer(String name, int[] given) throws Exception {
        Class<?>[] types = new Class<?>[given.length];
        Arrays.fill(types, int.class);
        Object[] boxed = Arrays.stream(given).boxed().toArray();
        return ((Number) CastGallery.class.getMethod(name, types).invoke(gallery, boxed)).longValue();
    }

    private void namesAll() {
        for (Method method : CastGallery.class.getDeclaredMethods()) {
            if (Modifier.isPublic(method.getModifiers())) {
                check.holds("README.md shows " + method.getName(), told.contains(method.getName()));
            }
        }
    }
}
