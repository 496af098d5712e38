import java.io.IOException;
import java.lang.reflect.Method;
import java.lang.reflect.Modifier;
import java.net.URL;
import java.net.URLClassLoader;
import java.nio.file.Files;
import java.nio.file.Path;
import java.util.ArrayList;
import java.util.List;
import java.util.regex.Matcher;
import java.util.regex.Pattern;
import javax.tools.ToolProvider;

/** The example of README.md is compiled and run as it stands there: each call answers the number behind it. */
public final class ReadmeExample {
    private static final String README = "README.md", NAME = "Example";
    private static final Pattern ANSWERED = Pattern.compile("(x\\.\\w+\\(.*\\));\\s*// (-?\\d+): .*");
    private static int answers, wrong;

    public static void main(String[] args) throws Exception {
        List<String> example = example(Files.readAllLines(Path.of(README)));
        run(program(example));
        everyCallIsShown(example);
        System.out.println(answers + " answers of the example looked at, " + wrong + " things are not as due");
        if (wrong != 0) {
            System.exit(1);
        }
    }

    /** Called by the example. */
    public static void due(String call, long got, long want) {
        answers++;
        if (got != want) {
            say(call + " answered " + got + ", README.md has " + want);
        }
    }

    private static void say(String what) {
        wrong++;
        System.out.println(what);
    }

    private static List<String> example(List<String> readme) {
        int begin = readme.indexOf("```java");
        List<String> behind = readme.subList(begin + 1, readme.size());
        int end = behind.indexOf("```");
        if (begin < 0 || end < 0) {
            throw new IllegalStateException(README + " has no example");
        }
        return behind.subList(0, end);
    }

    private static String program(List<String> example) {
        List<String> lines = new ArrayList<>();
        lines.add("public final class " + NAME + " { public static void show() {");
        for (String line : example) {
            Matcher matcher = ANSWERED.matcher(line);
            boolean answered = matcher.matches();
            if (!answered && line.startsWith("x.")) {
                say("README.md has no answer for " + line);
            }
            lines.add(answered ? "ReadmeExample.due(\"" + matcher.group(1) + "\", " + matcher.group(1) + ", "
                + matcher.group(2) + "L);" : line);
        }
        lines.add("} }");
        return String.join("\n", lines);
    }

    private static void run(String program) throws Exception {
        Path folder = Files.createTempDirectory("example");
        Path source = folder.resolve(NAME + ".java");
        try {
            Files.writeString(source, program);
            String path = System.getProperty("java.class.path");
            if (ToolProvider.getSystemJavaCompiler().run(null, null, null, "-cp", path, source.toString()) != 0) {
                say("the example of README.md can't be compiled");
                return;
            }
            try (URLClassLoader loader = new URLClassLoader(new URL[] {folder.toUri().toURL()})) {
                loader.loadClass(NAME).getMethod("show").invoke(null);
            }
        } finally {
            clear(folder);
        }
    }

    private static void clear(Path folder) throws IOException {
        Files.deleteIfExists(folder.resolve(NAME + ".java"));
        Files.deleteIfExists(folder.resolve(NAME + ".class"));
        Files.deleteIfExists(folder);
    }

    private static void everyCallIsShown(List<String> example) {
        String text = String.join("\n", example);
        for (Method method : NestedDolls.class.getDeclaredMethods()) {
            if (Modifier.isPublic(method.getModifiers()) && !text.contains("x." + method.getName() + "(")) {
                say("the example does not show " + method.getName());
            }
        }
    }
}
