import java.nio.charset.StandardCharsets;
import java.nio.file.Files;
import java.nio.file.Path;
import java.util.List;
import java.util.regex.Matcher;
import java.util.regex.Pattern;

/** The rules of the language that can be seen in the source; it is run from the root of the project. */
public final class LanguageTest {
    private static final String METHOD = "^( {4}| {8}| {12})(?! )(?!.*\\b(if|for|while|switch|class|catch)\\b).*\\) \\{$";
    private static final String IMPORT = "java\\.util\\.(ArrayList|List|Arrays|Iterator|NoSuchElementException);";

    public static void main(String[] args) throws Exception {
        Path path = Path.of("src/main/java/ParkingTariff.java");
        String source = Files.readString(path, StandardCharsets.ISO_8859_1);
        String code = withoutCommentsAndTexts(source);
        never("1: the face", code, "(?m)^package\\b");
        never("2: a method reference", code, "::");
        never("2: a lambda", code, "(?m)^(?!\\s*(case\\b|default\\b)).*->");
        never("4: the library", code, "\\bimport (?!" + IMPORT + ")");
        never("4: the library", code, "\\b(Float|Double|Object|Objects|Optional|Stream|Map|Set|HashMap|Character)\\b");
        never("4: the library", code, "\\bSystem\\.(?!arraycopy)|\\w+Exact\\b");
        never("5: a static field that is not final", code, "\\bstatic (?!final\\b)[^(){]*[=;]");
        never("5: a static block", code, "\\bstatic \\{");
        never("6: exceptions", code, "\\b(finally|synchronized|assert|getMessage|throws|hashCode)\\b");
        never("7: what the machine throws", code,
                "catch \\((ArrayIndex|StringIndex|IndexOutOf|NullPointer|ClassCast|NegativeArray|ArrayStore|Exception|Throwable)");
        Checks.due("11: at most some twelve classes", count(code, "\\b(class|enum|interface|record) \\w+") <= 13 ? 1 : 0, 1);
        methods(code.lines().toList());
        Checks.end();
    }

    private static String withoutCommentsAndTexts(String source) {
        return source.replaceAll("(?s)/\\*.*?\\*/", "").replaceAll("//.*", "")
                .replaceAll("\"(\\\\.|[^\"\\\\])*\"", "\"\"").replaceAll("'(\\\\.|[^'\\\\])'", "' '");
    }

    private static void never(String rule, String code, String pattern) {
        Matcher matcher = Pattern.compile(pattern).matcher(code);
        while (matcher.find()) {
            Checks.wrong("rule " + rule + ": '" + matcher.group() + "' at " + matcher.start());
        }
    }

    private static int count(String code, String pattern) {
        return (int) Pattern.compile(pattern).matcher(code).results().count();
    }

    private static void methods(List<String> lines) {
        for (int i = 0; i < lines.size(); i++) {
            if (!lines.get(i).matches(METHOD)) {
                continue;
            }
            String end = lines.get(i).replaceAll("\\S.*", "") + "}";
            int last = i;
            while (last < lines.size() - 1 && !lines.get(last).equals(end)) {
                last++;
            }
            String name = lines.get(i).trim();
            Checks.due("rule 11: the lines of " + name + " are at most some sixty", last - i < 65 ? 1 : 0, 1);
            Checks.due("rule 11: the parameters of " + name, name.split(",").length <= 7 ? 1 : 0, 1);
        }
    }
}
