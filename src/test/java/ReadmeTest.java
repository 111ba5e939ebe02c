import java.io.File;
import java.lang.reflect.Method;
import java.net.URL;
import java.net.URLClassLoader;
import java.nio.file.Files;
import java.nio.file.Path;
import java.util.ArrayList;
import java.util.List;
import java.util.regex.Matcher;
import java.util.regex.Pattern;
import javax.tools.JavaCompiler;
import javax.tools.ToolProvider;

/** Runs the examples of README.md, and compares the answers that stand behind their calls. */
public final class ReadmeTest {
    private static final Pattern EXAMPLE = Pattern.compile("(?s)```java\n(.*?)```");
    private static final Pattern ANSWERED = Pattern.compile("(int (\\w+) = )?([^;]+);\\s*// (-?\\d+|[A-Z_]+)\\b.*");
    private static final int LEAST_ANSWERS = 30;

    private final List<String> calls = new ArrayList<>();
    private final List<Integer> wanted = new ArrayList<>();

    public static void main(String[] args) throws Exception {
        String readme = Files.readString(Path.of("README.md"));
        ReadmeTest test = new ReadmeTest();
        int[] got = run(test.program(readme));
        for (int i = 0; i < got.length; i++) {
            Checks.due("README.md: " + test.calls.get(i), got[i], test.wanted.get(i));
        }
        Checks.due("there are examples", got.length >= LEAST_ANSWERS ? 1 : 0, 1);
        everyMethodIsNamed(readme);
        Checks.end();
    }

    /** A class that makes the calls of all examples and keeps what they answer. */
    private String program(String readme) throws Exception {
        StringBuilder body = new StringBuilder();
        Matcher example = EXAMPLE.matcher(readme);
        while (example.find()) {
            body.append("{\n");
            for (String line : example.group(1).split("\n")) {
                body.append(statement(line)).append('\n');
            }
            body.append("}\n");
        }
        return "public final class Examples {\npublic static int[] answers() {\n"
                + "int[] answers = new int[" + calls.size() + "];\n" + body + "return answers;\n}\n}\n";
    }

    private String statement(String line) throws Exception {
        Matcher answered = ANSWERED.matcher(line);
        if (!answered.matches()) {
            return line;
        }
        String answer = answered.group(4);
        boolean isName = Character.isLetter(answer.charAt(0));
        wanted.add(isName ? ParkingTariff.class.getField(answer).getInt(null) : Integer.parseInt(answer));
        calls.add(line);
        String kept = "answers[" + (calls.size() - 1) + "] = ";
        if (answered.group(2) == null) {
            return kept + answered.group(3) + ";";
        }
        return "int " + answered.group(2) + " = " + answered.group(3) + "; " + kept + answered.group(2) + ";";
    }

    private static int[] run(String program) throws Exception {
        Path folder = Files.createTempDirectory("readme");
        Path source = folder.resolve("Examples.java");
        try {
            Files.writeString(source, program);
            JavaCompiler compiler = ToolProvider.getSystemJavaCompiler();
            int code = compiler.run(null, null, null, "-cp", System.getProperty("java.class.path"),
                    "-d", folder.toString(), source.toString());
            if (code != 0) {
                Checks.wrong("the examples of README.md do not compile");
                return new int[0];
            }
            URL[] place = {folder.toUri().toURL()};
            try (URLClassLoader loader = new URLClassLoader(place, ReadmeTest.class.getClassLoader())) {
                return (int[]) loader.loadClass("Examples").getMethod("answers").invoke(null);
            }
        } finally {
            for (File file : folder.toFile().listFiles()) {
                file.delete();
            }
            Files.delete(folder);
        }
    }

    private static void everyMethodIsNamed(String readme) {
        for (Method method : ParkingTariff.class.getMethods()) {
            if (method.getDeclaringClass() == ParkingTariff.class) {
                boolean named = readme.lines().anyMatch(line -> line.startsWith("| `") && line.contains("`" + method.getName() + "`"));
                Checks.due("README.md names " + method.getName(), named ? 1 : 0, 1);
            }
        }
    }
}
