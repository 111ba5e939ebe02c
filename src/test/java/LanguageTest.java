import java.nio.charset.StandardCharsets;
import java.nio.file.Files;
import java.nio.file.Path;
import java.util.List;
import java.util.regex.Matcher;
import java.util.regex.Pattern;

/** The rules of the language that can be seen in the source; it is run from the root of the project. */
public final class LanguageTest {
    private static final String METHOD = "^(    |        )(?! ).*\\) \\{$";

    public static void main(String[] args) throws Exception {
        Path path = Path.of("src/main/java/ParkingTariff.java");
        String source = Files.readString(path, StandardCharsets.ISO_8859_1);
        signs(source);
        String code = source.replaceAll("(?s)/\\*.*?\\*/", "").replaceAll("//.*", "");
        never(code, "\\b(import|package|throw|try|catch|finally|synchronized|assert|volatile|native|protected)\\b");
        never(code, "->|::|\\bFloat\\.|\\bDouble\\.|\\bSystem\\.(?!arraycopy)|Exact\\b|\\bvar\\b|\\bHash|toString|hashCode");
        never(code, "\\bjava\\.|\\bStream\\b|\\bOptional\\b|\\bObject\\b|\\bclone\\b");
        never(code, "static (?!final|class|(int|boolean) \\w+\\()");
        never(code, "static final (?!class|int [A-Z_]+ =)");
        Checks.due("at most twelve classes", count(code, "\\bclass ") <= 12 ? 1 : 0, 1);
        Checks.due("the classes inside are private, static and final",
                count(code, "\\bclass "), 1 + count(code, "    private static final class "));
        methods(code.lines().toList());
        Checks.end();
    }

    private static void signs(String source) {
        for (int i = 0; i < source.length(); i++) {
            char sign = source.charAt(i);
            if (sign != '\n' && (sign < 32 || sign > 126)) {
                Checks.due("the sign at " + i, sign, '\n');
            }
        }
    }

    private static void never(String code, String pattern) {
        Matcher matcher = Pattern.compile(pattern).matcher(code);
        while (matcher.find()) {
            Checks.due("'" + matcher.group() + "' at " + matcher.start(), 1, 0);
        }
    }

    private static int count(String code, String pattern) {
        return (int) Pattern.compile(pattern).matcher(code).results().count();
    }

    private static void methods(List<String> lines) {
        int found = 0;
        for (int i = 0; i < lines.size(); i++) {
            if (!lines.get(i).matches(METHOD)) {
                continue;
            }
            found++;
            String end = lines.get(i).replaceAll("\\S.*", "") + "}";
            int last = i;
            while (!lines.get(last).equals(end)) {
                last++;
            }
            Checks.due(lines.get(i).trim() + " is short", last - i < 60 ? 1 : 0, 1);
            int parameters = lines.get(i).split(",").length;
            Checks.due(lines.get(i).trim() + " has few parameters", parameters <= 7 ? 1 : 0, 1);
        }
        Checks.due("methods are found", found > 90 ? 1 : 0, 1);
    }
}
