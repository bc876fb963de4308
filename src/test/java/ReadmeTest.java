import java.io.IOException;
import java.lang.reflect.Method;
import java.lang.reflect.Modifier;
import java.net.URL;
import java.net.URLClassLoader;
import java.nio.file.Files;
import java.nio.file.Path;
import java.util.Comparator;
import java.util.List;
import java.util.regex.Matcher;
import java.util.regex.Pattern;
import java.util.stream.Stream;
import javax.tools.JavaCompiler;
import javax.tools.ToolProvider;

/**
 * The lines of Java in README.md compile and answer what stands behind them; each call of the face is among them.
 * Run from the project's root.
 */
public final class ReadmeTest {
    private static final Path README = Path.of("README.md");
    private static final Pattern LINE = Pattern.compile("(?:int (\\w+) = )?(oak\\..*?);\\s*// (->|throws) ([\\w-]+).*");

    private ReadmeTest() {
    }

    public static void main(String[] args) throws Exception {
        String shown = shown(Files.readAllLines(README));
        for (Method m : BurntOak.class.getDeclaredMethods()) {
            if (Modifier.isPublic(m.getModifiers())) {
                Check.so("README.md shows " + m.getName(), shown.contains("oak." + m.getName() + "("));
            }
        }
        Path made = Files.createTempDirectory("readme");
        try {
            run(made, program(shown));
        } finally {
            remove(made);
        }
        Check.finish(ReadmeTest.class);
    }

    private static String shown(List<String> lines) {
        StringBuilder shown = new StringBuilder();
        boolean java = false;
        for (String line : lines) {
            if (line.startsWith("```")) {
                java = line.equals("```java");
            } else if (java) {
                shown.append(line).append('\n');
            }
        }
        return shown.toString();
    }

    /** A class whose method answers, for each call that is told, what it is, what it answered, and what is due. */
    private static String program(String shown) {
        StringBuilder program = new StringBuilder("public final class Shown {\n    public static String run() {\n");
        program.append("StringBuilder all = new StringBuilder();\nString got;\n");
        for (String line : shown.split("\n")) {
            Matcher parts = LINE.matcher(line);
            if (parts.matches()) {
                program.append(told(parts.group(1), parts.group(2), parts.group(3).equals("throws")));
                program.append("all.append(\"").append(parts.group(2)).append("\\t\").append(got).append(\"\\t");
                program.append(parts.group(4)).append("\\n\");\n");
            } else {
                Check.so("README.md tells what is answered: " + line, !line.contains("->") && !line.contains("throws"));
                program.append(line).append('\n');
            }
        }
        return program.append("return all.toString();\n    }\n}\n").toString();
    }

    private static String told(String name, String call, boolean throwing) {
        if (throwing) {
            return "got = \"nothing\";\ntry { " + call + "; } catch (RuntimeException e) { got = e.getClass().getSimpleName(); }\n";
        }
        return name == null ? "got = \"\" + " + call + ";\n" : "int " + name + " = " + call + ";\ngot = \"\" + " + name + ";\n";
    }

    private static void run(Path made, String program) throws Exception {
        Path source = Files.writeString(made.resolve("Shown.java"), program);
        JavaCompiler compiler = ToolProvider.getSystemJavaCompiler();
        String path = System.getProperty("java.class.path");
        int end = compiler.run(null, null, null, "-cp", path, "-d", made.toString(), source.toString());
        Check.same("README.md compiles", end, 0);
        if (end != 0) {
            return;
        }
        try (URLClassLoader loader = new URLClassLoader(new URL[] {made.toUri().toURL()})) {
            String all = (String) loader.loadClass("Shown").getMethod("run").invoke(null);
            for (String line : all.split("\n")) {
                String[] parts = line.split("\t");
                Check.same("README.md: " + parts[0], parts[1], parts[2]);
            }
        }
    }

    private static void remove(Path made) throws IOException {
        try (Stream<Path> all = Files.walk(made)) {
            for (Path each : all.sorted(Comparator.reverseOrder()).toList()) {
                Files.delete(each);
            }
        }
    }
}
