import java.io.IOException;
import java.nio.file.Files;
import java.nio.file.Path;
import java.util.ArrayList;
import java.util.List;
import java.util.Set;
import java.util.regex.Matcher;
import java.util.regex.Pattern;

/** The rules of LANGUAGE.md that a look at the text can tell; run from the project's folder. */
public final class LanguageTest {
    private static final String[] FORBIDDEN = {
        "->", "::", "\\btry\\b", "\\bcatch\\b", "\\bfinally\\b", "\\bsynchronized\\b", "\\bassert\\b",
        "\\bpackage\\b", "\\bprotected\\b", "\\bstatic\\s*\\{", "Exact\\b", "\\bSystem\\.(?!arraycopy)", "\\bThread\\b",
        "\\bString\\.", "\\bvar\\b", "\\bequals\\b", "\\bhashCode\\b", "\\btoString\\b", "\\binstanceof\\b",
        "\\bwhile \\(true\\)", "\\bfor \\(;;\\)", "\"\"\\s*\\+", "\\+\\s*\"\"", "\\[\\]\\[\\]\\[\\]",
    };
    private static final Set<String> IMPORTS = Set.of("java.util.ArrayList", "java.util.List", "java.util.Arrays");
    private static final int LINES_OF_A_METHOD = 60;
    private static final int PARAMETERS = 7;

    public static void main(String[] args) throws IOException {
        String text = withoutComments(Files.readString(Path.of("src/main/java/RightsCounter.java")));
        String words = text.replaceAll("\"[^\"]*\"", "\"\"");
        for (String pattern : FORBIDDEN) {
            Check.holds("the text has " + pattern, !Pattern.compile(pattern).matcher(words).find());
        }
        for (String name : all("import ([\\w.]+);", words)) {
            Check.holds("imports " + name, IMPORTS.contains(name));
        }
        for (String thrown : all("throw (.*)", text)) {
            Check.holds("throws " + thrown, thrown.matches(
                    "new (IllegalState|IllegalArgument|IndexOutOfBounds)Exception\\(\"[ -~]*\"\\);"));
        }
        for (String field : all("(?m)^ +((?:private |public )?static [^(]*?)[;=]", words)) {
            Check.holds("static and not final: " + field, field.contains("final "));
        }
        Check.holds("more than twelve classes", all("\\bclass (\\w+)", words).size() <= 12);
        Check.holds("a class inside that is not static", all("(?m)^ +(?!.*static).*\\bclass (\\w+)", words).isEmpty());
        checkMethods(words);
        Check.end();
    }

    private static String withoutComments(String text) {
        return text.replaceAll("(?s)/\\*.*?\\*/", "").replaceAll("//[^\n]*", "");
    }

    private static List<String> all(String pattern, String text) {
        List<String> found = new ArrayList<>();
        Matcher matcher = Pattern.compile(pattern).matcher(text);
        while (matcher.find()) {
            found.add(matcher.group(1));
        }
        return found;
    }

    private static void checkMethods(String words) {
        Matcher head = Pattern.compile("(?m)^( +)(?! )(?:[\\w\\[\\]<>]+ )*(\\w+)\\(([^)]*)\\)[^;{]*\\{$").matcher(words);
        int methods = 0;
        while (head.find()) {
            methods++;
            String name = head.group(2);
            int end = words.indexOf("\n" + head.group(1) + "}", head.end());
            Check.holds(name + " is long", words.substring(head.start(), end).lines().count() <= LINES_OF_A_METHOD);
            Check.holds(name + " takes many parameters", head.group(3).split(",").length <= PARAMETERS);
        }
        Check.holds("no methods were found", methods > 20);
    }
}
