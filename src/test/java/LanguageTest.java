import java.io.IOException;
import java.nio.file.Files;
import java.nio.file.Path;
import java.util.regex.Matcher;
import java.util.regex.Pattern;

/** What of LANGUAGE.md can be seen from the words of the source; it runs from the project's root. */
public final class LanguageTest {
    private static final String[] FORBIDDEN = {
        "throw", "throws", "try", "catch", "finally", "synchronized", "assert", "import", "package", "protected",
        "while", "enum", "interface", "extends", "implements", "instanceof", "record", "var", "null", "Object",
        "System", "Thread", "String", "double", "float", "yield", "native", "volatile", "transient",
    };

    public static void main(String[] args) throws IOException {
        Check check = new Check();
        String source = Files.readString(Path.of("src/main/java/PromiseChains.java"));
        String code = source.replaceAll("(?s)/\\*.*?\\*/", " ").replaceAll("//[^\n]*", " ");
        for (String word : FORBIDDEN) {
            check.holds("without the word " + word, !Pattern.compile("\\b" + word + "\\b").matcher(code).find());
        }
        check.holds("no lambda, no method reference", !code.contains("->") && !code.contains("::"));
        check.holds("signs of ASCII alone", source.chars().allMatch(c -> c < 127 && (c >= 32 || c == '\n')));
        checkClasses(check, code);
        checkMath(check, code);
        check.end();
    }

    private static void checkClasses(Check check, String code) {
        Matcher type = Pattern.compile("([a-z ]*)\\bclass (\\w+)").matcher(code);
        int types = 0;
        while (type.find()) {
            types++;
            boolean isFace = type.group(2).equals("PromiseChains");
            check.holds("modifiers of " + type.group(2),
                    type.group(1).trim().equals(isFace ? "public final" : "private static final"));
        }
        check.holds("some twelve classes at most", types <= 12);
        checkMethods(check, code);
    }

    private static void checkMethods(Check check, String code) {
        Matcher method = Pattern.compile("(?m)^( {4}| {8})[a-zA-Z][a-zA-Z\\[\\] ]+\\((.*)\\) \\{$").matcher(code);
        int methods = 0;
        while (method.find()) {
            methods++;
            String told = method.group().trim();
            int end = code.indexOf("\n" + method.group(1) + "}\n", method.end());
            check.holds("it ends: " + told, end > 0);
            long lines = code.substring(method.start(), Math.max(end, method.end())).lines().count();
            check.holds("sixty lines at most: " + told, lines <= 60);
            check.holds("seven parameters at most: " + told, method.group(2).split(",").length <= 7);
        }
        check.holds("methods are found", methods > 50);
    }

    private static void checkMath(Check check, String code) {
        Matcher called = Pattern.compile("\\b[A-Z][a-z]\\w*\\.(\\w+)\\(").matcher(code);
        while (called.find()) {
            check.holds("library call " + called.group(), called.group().matches("Math\\.(abs|min|max)\\("));
        }
    }
}
