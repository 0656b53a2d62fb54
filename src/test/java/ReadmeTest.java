import java.lang.reflect.Method;
import java.lang.reflect.Modifier;
import java.net.URL;
import java.net.URLClassLoader;
import java.nio.file.Files;
import java.nio.file.Path;
import java.util.regex.Matcher;
import java.util.regex.Pattern;
import javax.tools.ToolProvider;

/** README.md tells every call, and its example can be compiled and answers what its comments say. */
public final class ReadmeTest {
    private static final Check CHECK = new Check();
    private static final Pattern BLOCK = Pattern.compile("```java\n(.*?)```", Pattern.DOTALL);
    private static final Pattern ANSWER =
            Pattern.compile("(?m)^(?:int|boolean) (\\w+) = [^;]*; *// (-?\\d+|true|false): .*$");

    public static void main(String[] args) throws Exception {
        Path root = Path.of(System.getProperty("apron.source")).resolve("../../../..").normalize();
        String text = Files.readString(root.resolve("README.md"));
        eachCallIsTold(text);
        theTestsAreTold(text, root);
        theExampleHolds(text);
        CHECK.end();
    }

    private static void eachCallIsTold(String text) {
        for (Method m : ApronDesk.class.getDeclaredMethods()) {
            if (Modifier.isPublic(m.getModifiers())) {
                boolean told = text.contains("`" + m.getName() + "(");
                CHECK.due(m.getName() + "() is told", told, true);
            }
        }
    }

    private static void theTestsAreTold(String text, Path root) throws Exception {
        CHECK.due(".ci/run is told", text.contains("```sh\n.ci/run\n```"), true);
        try (var files = Files.newDirectoryStream(root.resolve("src/test/java"), "*.java")) {
            for (Path file : files) {
                String name = file.getFileName().toString().replace(".java", "");
                CHECK.due(name + " is told", text.contains("`" + name + "`"), true);
            }
        }
    }

    private static void theExampleHolds(String text) throws Exception {
        Matcher block = BLOCK.matcher(text);
        if (!block.find()) {
            CHECK.due("there is an example", false, true);
            return;
        }
        Matcher answers = ANSWER.matcher(block.group(1));
        StringBuilder body = new StringBuilder();
        int found = 0;
        while (answers.find()) {
            found++;
            String due = "\nif (" + answers.group(1) + " != " + answers.group(2) + ") wrong.append(\""
                    + answers.group(1) + " is \" + " + answers.group(1) + " + \"; \");";
            answers.appendReplacement(body, Matcher.quoteReplacement(answers.group() + due));
        }
        answers.appendTail(body);
        CHECK.due("answers are told", found > 0, true);
        CHECK.same("the example", run(body.toString()), "");
    }

    private static String run(String body) throws Exception {
        Path folder = Files.createTempDirectory("readme");
        Path source = folder.resolve("Example.java");
        Files.writeString(source, "public final class Example { public static String wrong() {\n"
                + "StringBuilder wrong = new StringBuilder();\n" + body + "return wrong.toString(); } }\n");
        String path = System.getProperty("java.class.path");
        int failed = ToolProvider.getSystemJavaCompiler().run(null, null, null,
                "-cp", path, "-d", folder.toString(), source.toString());
        String wrong = failed == 0 ? wrongIn(folder) : "it can't be compiled";
        Files.deleteIfExists(folder.resolve("Example.class"));
        Files.delete(source);
        Files.delete(folder);
        return wrong;
    }

    private static String wrongIn(Path folder) throws Exception {
        try (URLClassLoader loader = new URLClassLoader(new URL[] {folder.toUri().toURL()})) {
            return (String) loader.loadClass("Example").getMethod("wrong").invoke(null);
        }
    }
}
