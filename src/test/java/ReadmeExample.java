import java.io.IOException;
import java.net.URL;
import java.net.URLClassLoader;
import java.nio.file.Files;
import java.nio.file.Path;
import java.util.List;
import java.util.regex.Matcher;
import java.util.regex.Pattern;
import javax.tools.ToolProvider;

/** Runs an example of README.md: a line's remark "answers .." or "throws .." is what its call must do. */
final class ReadmeExample {
    private static final Pattern ANSWERS = Pattern.compile("^(.*);\\s*// answers (\"[^\"]*\"|[^\\s:]+)(?:: .*)?$");
    private static final Pattern THROWS = Pattern.compile("^(.*);\\s*// throws (\\w+)(?:: .*)?$");

    private ReadmeExample() {
    }

    /** For each line that tells an answer: its call, what that answered, and what is written. */
    static List<String[]> run(String example) throws Exception {
        Path folder = Files.createTempDirectory("readme");
        try {
            compile(folder, example);
            return answers(folder);
        } finally {
            for (String name : List.of("Example.java", "Example.class", "")) {
                Files.deleteIfExists(folder.resolve(name));
            }
        }
    }

    private static void compile(Path folder, String example) throws IOException {
        Path source = Files.writeString(folder.resolve("Example.java"), source(example));
        int status = ToolProvider.getSystemJavaCompiler().run(null, null, null,
            "-cp", System.getProperty("java.class.path"), "-d", folder.toString(), source.toString());
        if (status != 0) {
            throw new IllegalStateException("an example of README.md does not compile");
        }
    }

    private static String source(String example) {
        StringBuilder source = new StringBuilder("public class Example {\n");
        source.append("public static java.util.List<String[]> run() {\n");
        source.append("java.util.List<String[]> seen = new java.util.ArrayList<>();\n");
        example.lines().forEach(line -> source.append(checked(line)).append('\n'));
        return source.append("return seen;\n}\n}\n").toString();
    }

    private static String checked(String line) {
        Matcher answers = ANSWERS.matcher(line);
        if (answers.matches()) {
            String call = answers.group(1);
            return seen(call, "\"\" + (" + call + ")", "\"\" + (" + answers.group(2) + ")");
        }
        Matcher thrown = THROWS.matcher(line);
        if (thrown.matches()) {
            String call = thrown.group(1);
            String due = quoted("java.lang." + thrown.group(2));
            return "try { " + call + "; " + seen(call, quoted("and threw nothing"), due)
                + " } catch (RuntimeException e) { " + seen(call, "e.getClass().getName()", due) + " }";
        }
        if (line.contains("// answers") || line.contains("// throws")) {
            throw new IllegalStateException("README.md has a remark of no known form: " + line);
        }
        return line;
    }

    private static String seen(String call, String got, String due) {
        return "seen.add(new String[] {" + quoted(call) + ", " + got + ", " + due + "});";
    }

    private static String quoted(String text) {
        return "\"" + text.replace("\\", "\\\\").replace("\"", "\\\"") + "\"";
    }

    @SuppressWarnings("unchecked")
    private static List<String[]> answers(Path folder) throws Exception {
        try (URLClassLoader loader = new URLClassLoader(new URL[] {folder.toUri().toURL()})) {
            return (List<String[]>) loader.loadClass("Example").getMethod("run").invoke(null);
        }
    }
}
