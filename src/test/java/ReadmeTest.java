import java.io.IOException;
import java.lang.reflect.InvocationTargetException;
import java.net.URL;
import java.net.URLClassLoader;
import java.nio.file.Files;
import java.nio.file.Path;
import java.util.List;
import java.util.regex.Matcher;
import java.util.regex.Pattern;
import javax.tools.ToolProvider;

/** The examples of README.md, run one behind the other: a variable has the value that its line tells behind //. */
public final class ReadmeTest {
    private static final Check CHECK = new Check();
    private static final Pattern BLOCK = Pattern.compile("```java\n(.*?)```", Pattern.DOTALL);
    private static final Pattern TOLD = Pattern.compile("(?:int|long|boolean) (\\w+) = .*; *// (-?\\w+)(?::.*)?");
    private static final Path PLACE = Path.of("build/readme");

    private static int told;

    public static void main(String[] args) throws IOException, ReflectiveOperationException {
        Files.createDirectories(PLACE);
        Path source = PLACE.resolve("ReadmeExample.java");
        Files.writeString(source, example(Files.readString(Path.of("README.md"))));
        CHECK.same("the README has answers", told > 20, true);
        int outcome = ToolProvider.getSystemJavaCompiler().run(null, null, null,
            "-cp", System.getProperty("java.class.path"), "-d", PLACE.toString(), source.toString());
        CHECK.same("the examples compile", outcome, 0);
        if (outcome == 0) {
            run();
        }
        CHECK.finish("ReadmeTest");
    }

    private static String example(String readme) {
        StringBuilder members = new StringBuilder();
        StringBuilder body = new StringBuilder();
        Matcher block = BLOCK.matcher(readme);
        while (block.find()) {
            boolean isMember = block.group(1).startsWith("static");
            for (String line : block.group(1).split("\n")) {
                (isMember ? members : body).append(line).append('\n').append(comparison(line));
            }
        }
        return "public class ReadmeExample {\n" + members
            + "public static void main(java.util.List<Object[]> answers) {\n" + body + "}\n}\n";
    }

    private static String comparison(String line) {
        Matcher match = TOLD.matcher(line);
        if (!match.matches()) {
            return "";
        }
        told++;
        return "answers.add(new Object[] {\"" + match.group(1) + "\", " + match.group(1) + ", \"" + match.group(2)
            + "\"});\n";
    }

    private static void run() throws IOException, ReflectiveOperationException {
        List<Object[]> answers = new java.util.ArrayList<>();
        URL[] places = {PLACE.toUri().toURL()};
        try (URLClassLoader loader = new URLClassLoader(places, ReadmeTest.class.getClassLoader())) {
            loader.loadClass("ReadmeExample").getMethod("main", List.class).invoke(null, answers);
        } catch (InvocationTargetException thrown) {
            CHECK.same("the examples throw", thrown.getCause(), "nothing");
        }
        CHECK.same("answers that were compared", answers.size(), told);
        for (Object[] answer : answers) {
            CHECK.same("README: " + answer[0], answer[1], answer[2]);
        }
    }
}
