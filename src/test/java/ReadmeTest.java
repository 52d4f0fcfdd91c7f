import java.io.IOException;
import java.net.URL;
import java.net.URLClassLoader;
import java.nio.file.Files;
import java.nio.file.Path;
import java.util.ArrayList;
import java.util.List;
import java.util.regex.Matcher;
import java.util.regex.Pattern;
import java.util.stream.Stream;
import javax.tools.ToolProvider;

/** README.md: its example compiles and answers what stands beside it, and its table has the calls of the face. */
final class ReadmeTest {
    private static final Pattern EXAMPLE = Pattern.compile("```java\n(.*?)```", Pattern.DOTALL);
    private static final Pattern ANSWER = Pattern.compile("\\w+ (\\w+) = .*; +// (\\S+): .*");
    private static final Pattern METHOD = Pattern.compile(" {4}public \\w+ (\\w+)\\(([^)]*)\\).*;");
    private static final Pattern ROW = Pattern.compile("\\| `([^`]*)` \\| .+ \\|");

    public static void main(String[] args) throws IOException, ReflectiveOperationException {
        String readme = Files.readString(Path.of("README.md"));
        Check.equal("the calls of the table", face().toString(), groups(ROW, readme).toString());
        example(readme);
        Check.end();
    }

    /** The calls of the document's face, in its order, with the names of their numbers. */
    private static List<String> face() throws IOException {
        List<String> face = new ArrayList<>();
        for (String line : Files.readAllLines(Path.of("../shared/DOC.md"))) {
            Matcher method = METHOD.matcher(line);
            if (method.matches()) {
                face.add(method.group(1) + "(" + method.group(2).replace("int ", "") + ")");
            }
        }
        return face;
    }

    private static List<String> groups(Pattern pattern, String text) {
        List<String> groups = new ArrayList<>();
        for (String line : text.split("\n")) {
            Matcher found = pattern.matcher(line);
            if (found.matches()) {
                groups.add(found.group(1));
            }
        }
        return groups;
    }

    private static void example(String readme) throws IOException, ReflectiveOperationException {
        Matcher found = EXAMPLE.matcher(readme);
        Check.equal("there is an example", true, found.find());
        List<String> due = new ArrayList<>();
        StringBuilder code = new StringBuilder(found.group(1)).append("java.util.List<String> told = new java.util"
                + ".ArrayList<>();\n");
        for (String line : found.group(1).split("\n")) {
            Matcher answer = ANSWER.matcher(line);
            Check.equal("names its answer: " + line, true, answer.matches() || due.isEmpty());
            if (answer.matches()) {
                due.add(answer.group(1) + " is " + answer.group(2));
                code.append("told.add(\"" + answer.group(1) + " is \" + " + answer.group(1) + ");\n");
            }
        }
        Check.equal("answers of the example", true, due.size() > 1);
        Check.equal("what the example answers", due.toString(), told(code.toString()));
    }

    private static String told(String code) throws IOException, ReflectiveOperationException {
        Path folder = Files.createTempDirectory("readme");
        try {
            Path yours = folder.resolve("Yours.java");
            Files.writeString(yours, "public class Yours {\npublic static String told() {\n" + code
                    + "return told.toString();\n}\n}\n");
            int failed = ToolProvider.getSystemJavaCompiler().run(null, null, null, "--release", "17",
                    "-d", folder.toString(), "src/main/java/GhostInn.java", yours.toString());
            return failed == 0 ? answerOf(folder) : "it does not compile";
        } finally {
            delete(folder);
        }
    }

    private static String answerOf(Path folder) throws IOException, ReflectiveOperationException {
        URL[] classes = {folder.toUri().toURL()};
        try (URLClassLoader loader = new URLClassLoader(classes, ClassLoader.getPlatformClassLoader())) {
            return (String) loader.loadClass("Yours").getMethod("told").invoke(null);
        }
    }

    private static void delete(Path folder) throws IOException {
        List<Path> files;
        try (Stream<Path> listed = Files.list(folder)) {
            files = listed.toList();
        }
        for (Path file : files) {
            Files.delete(file);
        }
        Files.delete(folder);
    }
}
