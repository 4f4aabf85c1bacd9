import java.io.IOException;
import java.lang.reflect.Method;
import java.lang.reflect.Modifier;
import java.net.URL;
import java.net.URLClassLoader;
import java.nio.file.Files;
import java.nio.file.Path;
import java.util.ArrayList;
import java.util.List;
import java.util.regex.Matcher;
import java.util.regex.Pattern;
import java.util.stream.Stream;
import javax.tools.ToolProvider;

/** The Java in README.md compiles, and each call there answers as the remark behind it says. */
public final class ReadmeTest {
    private static final Check CHECK = new Check();
    private static final Pattern BLOCK = Pattern.compile("(?s)```java\n(.*?)```");
    /** A call with its answer, behind which something may be said of it. */
    private static final Pattern ANSWER = Pattern.compile("(x\\.\\w+\\(.*?\\));\\s+// (-?[0-9]+|true|false)(:.*)?");

    public static void main(String[] args) throws Exception {
        List<String> calls = new ArrayList<>();
        List<String> wants = new ArrayList<>();
        String program = program(Files.readString(Path.of("README.md")), calls, wants);
        List<String> got = run(program);
        CHECK.due("answers", got.size(), wants.size());
        for (int i = 0; i < got.size() && i < wants.size(); i++) {
            CHECK.due(calls.get(i) + ": " + got.get(i) + ", due is " + wants.get(i), got.get(i).equals(wants.get(i)), true);
        }
        everyMethod(calls);
        CHECK.finish();
    }

    /** Blocks that begin with static are methods, all others one run of statements whose answers are gathered. */
    private static String program(String readme, List<String> calls, List<String> wants) {
        StringBuilder methods = new StringBuilder();
        StringBuilder body = new StringBuilder();
        Matcher blocks = BLOCK.matcher(readme);
        while (blocks.find()) {
            if (blocks.group(1).startsWith("static ")) {
                methods.append(blocks.group(1));
                continue;
            }
            for (String line : blocks.group(1).split("\n")) {
                Matcher answer = ANSWER.matcher(line);
                if (answer.matches()) {
                    calls.add(answer.group(1));
                    wants.add(answer.group(2));
                    body.append("got.add(String.valueOf(").append(answer.group(1)).append("));\n");
                } else {
                    CHECK.due("an answer stands behind " + line, line.startsWith("x."), false);
                    body.append(line).append('\n');
                }
            }
        }
        return "public final class Shown {\n" + methods + "public static java.util.List<String> answers() {\n"
            + "java.util.List<String> got = new java.util.ArrayList<>();\n" + body + "return got;\n}\n}\n";
    }

    private static List<String> run(String program) throws Exception {
        Path place = Files.createTempDirectory("readme");
        try {
            Path source = place.resolve("Shown.java");
            Files.writeString(source, program);
            String path = System.getProperty("java.class.path");
            int failed = ToolProvider.getSystemJavaCompiler().run(null, null, null,
                "-cp", path, "-d", place.toString(), source.toString());
            CHECK.due("README.md compiles", failed, 0);
            return failed == 0 ? answers(place) : new ArrayList<>();
        } finally {
            remove(place);
        }
    }

    private static List<String> answers(Path place) throws Exception {
        List<String> got = new ArrayList<>();
        try (URLClassLoader loader = new URLClassLoader(new URL[] {place.toUri().toURL()})) {
            Object all = loader.loadClass("Shown").getMethod("answers").invoke(null);
            for (Object one : (List<?>) all) {
                got.add((String) one);
            }
        }
        return got;
    }

    private static void remove(Path place) throws IOException {
        try (Stream<Path> files = Files.list(place)) {
            for (Path file : files.toList()) {
                Files.delete(file);
            }
        }
        Files.delete(place);
    }

    private static void everyMethod(List<String> calls) {
        for (Method method : DeafSpot.class.getDeclaredMethods()) {
            if (Modifier.isPublic(method.getModifiers())) {
                boolean shown = false;
                for (String call : calls) {
                    shown |= call.startsWith("x." + method.getName() + "(");
                }
                CHECK.due("README.md shows " + method.getName(), shown, true);
            }
        }
    }
}
