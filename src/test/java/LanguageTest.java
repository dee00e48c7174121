import java.nio.charset.StandardCharsets;
import java.nio.file.Files;
import java.nio.file.Path;
import java.util.ArrayList;
import java.util.List;
import java.util.regex.Matcher;
import java.util.regex.Pattern;

/** Rules of ../shared/LANGUAGE.md that can be seen in the words of the source. */
public final class LanguageTest {
    private static final String[] RULED_OUT = {
        "throw", "throws", "try", "catch", "finally", "synchronized", "assert", "package", "protected",
        "volatile", "native", "transient", "hashCode", "toString", "equals", "Object", "HashMap", "Exact",
        "Random", "Thread", "currentTimeMillis", "nanoTime", "hashMap", "var", "yield", "getClass"};
    private static final String[] SIGNS_RULED_OUT = {"->", "::", "@", "\\[\\]\\s*\\[\\]\\s*\\["};

    public static void main(String[] args) throws Exception {
        Check check = new Check();
        String source = Files.readString(Path.of(args[0]), StandardCharsets.US_ASCII);
        String code = source.replaceAll("(?s)/\\*.*?\\*/", "").replaceAll("//[^\n]*", "");
        for (String word : RULED_OUT) {
            check.holds("without the word " + word, !Pattern.compile("\\b" + word + "\\b").matcher(code).find());
        }
        for (String sign : SIGNS_RULED_OUT) {
            check.holds("without the sign " + sign, !Pattern.compile(sign).matcher(code).find());
        }
        imports(check, code);
        statics(check, code);
        lengths(check, code);
        check.end();
    }

    private static void imports(Check check, String code) {
        Matcher line = Pattern.compile("import ([^;]+);").matcher(code);
        while (line.find()) {
            check.holds("import " + line.group(1), line.group(1).matches("java\\.util\\.(Arrays|ArrayList|List|Iterator)"));
        }
    }

    private static void statics(Check check, String code) {
        check.holds("no static block", !Pattern.compile("\\bstatic\\s*\\{").matcher(code).find());
        Matcher field = Pattern.compile("\\bstatic (?!final )[^;({]*[=;]").matcher(code);
        while (field.find()) {
            check.holds("final: " + field.group(), false);
        }
    }

    /** Methods of sixty lines at most, of seven parameters at most. */
    private static void lengths(Check check, String code) {
        String[] lines = code.split("\n");
        List<String> open = new ArrayList<>();
        int began = 0;
        for (int i = 0; i < lines.length; i++) {
            boolean head = lines[i].matches("\\s+(public |private |static )*\\w+(\\[\\])? ?\\w*\\(.*\\) \\{");
            if (head && !lines[i].matches("\\s+(if|for|while|switch|else|\\}).*")) {
                open.add(lines[i].replaceAll("\\S.*", "}"));
                began = i;
                check.holds("seven parameters: " + lines[i], lines[i].split(",").length <= 7);
            } else if (!open.isEmpty() && lines[i].equals(open.get(open.size() - 1))) {
                check.holds("sixty lines: " + lines[began], i - began < 60);
                open.clear();
            }
        }
    }
}
