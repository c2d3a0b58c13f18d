import java.io.IOException;
import java.lang.reflect.Method;
import java.lang.reflect.Modifier;
import java.net.URL;
import java.net.URLClassLoader;
import java.nio.file.Files;
import java.nio.file.Path;
import java.util.ArrayList;
import java.util.List;
import java.util.regex.Matcher;
import java.util.regex.Pattern;
import javax.tools.ToolProvider;

/** README.md tells the truth: its example answers what stands beside it, and its table has every call as the class has it. */
public final class ReadmeTest {
    private static final Pattern EXAMPLE = Pattern.compile("```java\n(.*?)```", Pattern.DOTALL);
    /** A line of the example whose comment begins with the answer. */
    private static final Pattern ANSWERED = Pattern.compile("(?m)^(fabric\\.[^;]+);\\s*// (-?\\d+)(:.*)?$");
    private static final Due DUE = new Due();

    private ReadmeTest() {
    }

    public static void main(String[] args) throws IOException, ReflectiveOperationException {
        String readme = Files.readString(Path.of("README.md"));
        runExample(readme);
        for (Method call : ZonedFabric.class.getDeclaredMethods()) {
            if (Modifier.isPublic(call.getModifiers())) {
                DUE.is("README.md's table has " + call.getName() + " with as many arguments", rows(readme, call), 1);
            }
        }
        DUE.end();
    }

    private static int rows(String readme, Method call) {
        StringBuilder arguments = new StringBuilder();
        for (int i = 0; i < call.getParameterCount(); i++) {
            arguments.append(i == 0 ? "[a-z]+" : ", [a-z]+");
        }
        Matcher row = Pattern.compile("(?m)^\\|[^|]*`" + call.getName() + "\\(" + arguments + "\\)`[^|]*\\|").matcher(readme);
        return (int) row.results().count();
    }

    private static void runExample(String readme) throws IOException, ReflectiveOperationException {
        Matcher example = EXAMPLE.matcher(readme);
        DUE.yes("README.md has an example", example.find());
        Matcher answered = ANSWERED.matcher(example.group(1));
        List<Long> wanted = new ArrayList<>();
        String body = answered.replaceAll(line -> {
            wanted.add(Long.parseLong(line.group(2)));
            return "answers.add((long) " + Matcher.quoteReplacement(line.group(1)) + ");";
        });
        Path directory = Files.createTempDirectory("readme");
        try {
            List<Long> answers = answersOf(directory, body);
            DUE.is("answers of the example", answers.size(), wanted.size());
            for (int i = 0; i < wanted.size() && i < answers.size(); i++) {
                DUE.is("answer " + (i + 1) + " of the example", answers.get(i), wanted.get(i));
            }
            DUE.yes("the example tells answers", !wanted.isEmpty());
        } finally {
            for (String name : new String[] {"Example.java", "Example.class", ""}) {
                Files.deleteIfExists(directory.resolve(name));
            }
        }
    }

    private static List<Long> answersOf(Path directory, String body) throws IOException, ReflectiveOperationException {
        Path file = directory.resolve("Example.java");
        Files.writeString(file, "public class Example { public static void run(java.util.List<Long> answers) {\n" + body + "} }\n");
        int compiled = ToolProvider.getSystemJavaCompiler().run(null, null, null, "-proc:none",
            "-cp", System.getProperty("java.class.path"), "-d", directory.toString(), file.toString());
        DUE.is("the example compiles", compiled, 0);
        List<Long> answers = new ArrayList<>();
        if (compiled == 0) {
            try (URLClassLoader loader = new URLClassLoader(new URL[] {directory.toUri().toURL()})) {
                loader.loadClass("Example").getMethod("run", List.class).invoke(null, answers);
            }
        }
        return answers;
    }
}
