import java.io.IOException;
import java.lang.reflect.Method;
import java.nio.file.Files;
import java.nio.file.Path;
import java.util.ArrayList;
import java.util.List;
import java.util.regex.Matcher;
import java.util.regex.Pattern;
import javax.tools.JavaCompiler;
import javax.tools.ToolProvider;

/**
 * The examples of README.md: each call answers what stands behind it there. The blocks of java are compiled as they
 * stand, functions of one's own and statements apart, each call that has an answer behind it with a test of it.
 */
public final class ReadmeTest {
    private static final Pattern ANSWERED = Pattern.compile("(hat\\.\\w+\\(.*\\));\\s*// (\\S+): .*");

    private ReadmeTest() {
    }

    public static void main(String[] args) throws Exception {
        List<String> functions = new ArrayList<>();
        List<String> statements = new ArrayList<>();
        for (List<String> block : blocks()) {
            boolean isFunctions = block.stream().anyMatch(line -> line.startsWith("static "));
            (isFunctions ? functions : statements).addAll(block);
        }
        StringBuilder text = new StringBuilder("final class ReadmeExample {\n");
        for (String line : functions) {
            text.append(line).append('\n');
        }
        text.append("static void run(Check check) {\n");
        int answered = 0;
        for (String line : statements) {
            Matcher matcher = ANSWERED.matcher(line);
            boolean hasAnswer = matcher.matches();
            answered += hasAnswer ? 1 : 0;
            text.append(hasAnswer ? asked(matcher.group(1), matcher.group(2)) : line).append('\n');
        }
        text.append("}\n}\n");
        Check check = new Check();
        check.due("there are calls with answers", answered > 50, true);
        check.due("no call without one", statements.stream().filter(line -> line.startsWith("hat.")).count(), answered);
        runs(text.toString(), check);
        check.end("ReadmeTest");
    }

    private static List<List<String>> blocks() throws IOException {
        List<List<String>> blocks = new ArrayList<>();
        boolean inside = false;
        for (String line : Files.readAllLines(Path.of("README.md"))) {
            if (line.equals("```java")) {
                blocks.add(new ArrayList<>());
                inside = true;
            } else if (line.equals("```")) {
                inside = false;
            } else if (inside) {
                blocks.get(blocks.size() - 1).add(line);
            }
        }
        return blocks;
    }

    private static String asked(String call, String answer) {
        if (answer.equals("throws")) {
            return "check.isMissing(\"" + call + "\", () -> " + call + ");";
        }
        return "check.due(\"" + call + "\", " + call + ", " + (answer.equals("NONE") ? "NameHat.NONE" : answer) + ");";
    }

    /** The text is compiled to where this test was, so that it finds the class and Check as this test does. */
    private static void runs(String text, Check check) throws Exception {
        JavaCompiler compiler = ToolProvider.getSystemJavaCompiler();
        check.due("there is a compiler", compiler != null, true);
        if (compiler == null) {
            return;
        }
        Path folder = Path.of(ReadmeTest.class.getProtectionDomain().getCodeSource().getLocation().toURI());
        Path file = folder.resolve("ReadmeExample.java");
        Files.writeString(file, text);
        int compiled = compiler.run(null, null, null, "-cp", System.getProperty("java.class.path"), "-d",
            folder.toString(), file.toString());
        check.due("README.md compiles", compiled, 0);
        if (compiled == 0) {
            Method run = Class.forName("ReadmeExample").getDeclaredMethod("run", Check.class);
            run.invoke(null, check);
        }
    }
}
