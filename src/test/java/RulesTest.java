import java.io.IOException;
import java.lang.reflect.Modifier;
import java.nio.file.Files;
import java.nio.file.Path;
import java.util.Arrays;
import java.util.regex.Matcher;
import java.util.regex.Pattern;

/** What can be seen in the source of the rules of LANGUAGE.md. The first argument is the path of the source. */
final class RulesTest {
    private static final String[] FORBIDDEN = {"throw", "throws", "try", "catch", "finally", "synchronized", "assert",
        "import", "package", "protected", "volatile", "native", "var", "Object", "System\\.(?!arraycopy)", "Thread",
        "Random", "Exception", "Error\\b", "\\w+Exact", "->", "::", "@", "hashCode", "toString", "while \\(true\\)",
        "for \\(;;\\)", "float", "double"};
    private static final int MOST_LINES = 60;
    private static final int MOST_CLASSES = 12;
    private static final int MOST_PARAMETERS = 7;
    private static final int MOST_FIELDS = 20;

    public static void main(String[] args) throws IOException {
        Check check = new Check();
        String source = Files.readString(Path.of(args[0]));
        String code = source.replaceAll("(?s)/\\*.*?\\*/", "").replaceAll("//[^\n]*", "");
        for (String word : FORBIDDEN) {
            String bounded = Character.isLetter(word.charAt(0)) ? "\\b" + word + (word.endsWith("\\b") ? "" : "(?!\\w)") : word;
            check.holds("no " + word, !Pattern.compile(bounded).matcher(code).find());
        }
        check.holds("signs 1 to 127 alone", source.chars().allMatch(c -> c > 0 && c < 128));
        check.holds("some twelve classes", count(code, "\\bclass\\s+\\w+\\s*(implements\\s+\\w+\\s*)?\\{") <= MOST_CLASSES);
        check.holds("one public class", count(code, "\\bpublic\\s+(final\\s+)?class\\b") == 1);
        check.due("static fields are final", count(code, "\\bstatic\\s+(?!final)\\w+(\\[\\])?\\s+\\w+\\s*[=;]"), 0);
        methods(check, code);
        fields(check, ArbitratedBus.class);
        for (Class<?> inside : ArbitratedBus.class.getDeclaredClasses()) {
            fields(check, inside);
        }
        check.end();
    }

    private static int count(String code, String pattern) {
        return (int) Pattern.compile(pattern).matcher(code).results().count();
    }

    private static void methods(Check check, String code) {
        Matcher m = Pattern.compile("(?m)^( +)[\\w\\[\\] ]*\\b(\\w+)\\(([^()]*)\\) \\{$").matcher(code);
        int found = 0;
        while (m.find()) {
            if (m.group(2).matches("if|for|while|switch")) {
                continue;
            }
            found++;
            int end = code.indexOf("\n" + m.group(1) + "}", m.end());
            long lines = code.substring(m.start(), end).lines().count();
            check.holds(m.group(2) + " has " + lines + " lines", lines <= MOST_LINES);
            check.holds(m.group(2) + " parameters", m.group(3).split(",").length <= MOST_PARAMETERS);
        }
        check.holds("methods were found", found > 100);
    }

    private static void fields(Check check, Class<?> type) {
        long fields = Arrays.stream(type.getDeclaredFields()).filter(f -> !Modifier.isStatic(f.getModifiers())).count();
        check.holds(type + " has " + fields + " fields", fields <= MOST_FIELDS);
    }
}
