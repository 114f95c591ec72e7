import java.io.IOException;
import java.lang.reflect.InvocationTargetException;
import java.net.URL;
import java.net.URLClassLoader;
import java.nio.file.Files;
import java.nio.file.Path;
import java.util.ArrayList;
import java.util.List;
import java.util.regex.Matcher;
import java.util.regex.Pattern;
import javax.tools.ToolProvider;

/**
 * What README.md tells is so: its first block of Java holds methods, its second one calls, and a call with
 * "// -> answer" behind it must answer so.
 */
public final class ReadmeTest {
    private static final Pattern BLOCK = Pattern.compile("(?s)```java\n(.*?)```");
    private static final Pattern TOLD = Pattern.compile("^((?:\\w+ )?(\\w+) = )?(.*?); *// -> (-?\\w+).*$");
    private static final int FEWEST_TOLD = 20;

    public static void main(String[] args) throws Exception {
        Path source = Path.of(System.getProperty("wrongend.source", "src/main/java/WrongEnd.java"));
        Path readme = source.toAbsolutePath().resolve("../../../../README.md").normalize();
        Checks checks = new Checks();
        List<String> blocks = new ArrayList<>();
        Matcher matcher = BLOCK.matcher(Files.readString(readme));
        while (matcher.find()) {
            blocks.add(matcher.group(1));
        }
        checks.due("blocks of Java in README.md", blocks.size(), 2);
        if (blocks.size() == 2) {
            run(blocks.get(0), blocks.get(1), checks);
        }
        checks.finish("ReadmeTest");
    }

    private static void run(String methods, String calls, Checks checks) throws IOException, ReflectiveOperationException {
        StringBuilder body = new StringBuilder();
        int told = 0;
        for (String line : calls.split("\n")) {
            Matcher matcher = TOLD.matcher(line);
            if (matcher.matches()) {
                told++;
                body.append(checked(matcher)).append('\n');
            } else {
                body.append(line).append('\n');
            }
        }
        checks.due("answers told in README.md", told >= FEWEST_TOLD, true);
        String code = "public final class ReadmeRun {\n" + methods + "\npublic static int run() {\nint wrong = 0;\n" + body
                + "return wrong;\n}\n}\n";
        checks.due("README.md's calls that answer another thing", compiledRun(code), 0);
    }

    private static String checked(Matcher matcher) {
        String call = matcher.group(3);
        String want = matcher.group(4);
        String test = "if (%s != " + want + ") { wrong++; System.out.println(\"README: not " + want
                + ": \" + \"" + call.replace("\\", "\\\\").replace("\"", "\\\"") + "\"); }";
        if (matcher.group(1) == null) {
            return String.format(test, call);
        }
        return matcher.group(1) + call + "; " + String.format(test, matcher.group(2));
    }

    private static int compiledRun(String code) throws IOException, ReflectiveOperationException {
        Path folder = Files.createTempDirectory("readme");
        Path file = folder.resolve("ReadmeRun.java");
        Path compiled = folder.resolve("ReadmeRun.class");
        try {
            Files.writeString(file, code);
            String known = System.getProperty("java.class.path");
            int failed = ToolProvider.getSystemJavaCompiler().run(null, null, null, "-proc:none", "-cp", known, "-d",
                    folder.toString(), file.toString());
            return failed != 0 ? -1 : runIn(folder);
        } finally {
            Files.deleteIfExists(compiled);
            Files.deleteIfExists(file);
            Files.deleteIfExists(folder);
        }
    }

    private static int runIn(Path folder) throws IOException, ReflectiveOperationException {
        try (URLClassLoader loader = new URLClassLoader(new URL[] {folder.toUri().toURL()}, ReadmeTest.class.getClassLoader())) {
            return (int) loader.loadClass("ReadmeRun").getMethod("run").invoke(null);
        } catch (InvocationTargetException thrown) {
            thrown.printStackTrace();
            return -1;
        }
    }
}
