import java.io.IOException;
import java.net.URL;
import java.net.URLClassLoader;
import java.nio.file.Files;
import java.nio.file.Path;
import java.util.ArrayList;
import java.util.List;
import java.util.regex.Matcher;
import java.util.regex.Pattern;
import java.util.stream.Stream;
import javax.tools.JavaCompiler;
import javax.tools.ToolProvider;

/** What README.md shows is so: its calls answer the numbers behind them, and its table names every test. */
public final class ReadmeTest {
    private static final Pattern BLOCK = Pattern.compile("(?s)\n```java\n(.*?)\n```\n");
    private static final Pattern CALL = Pattern.compile("(int \\w+ = )?(x\\.\\w+\\(.*\\)); +// (-?\\d+): .+");
    private static final Check CHECK = new Check("ReadmeTest");

    public static void main(String[] args) throws IOException, ReflectiveOperationException {
        String readme = Files.readString(Path.of("README.md"));
        calls(readme);
        table(readme);
        CHECK.end();
    }

    private static void calls(String readme) throws IOException, ReflectiveOperationException {
        StringBuilder code = new StringBuilder();
        List<String> shown = new ArrayList<>();
        List<Integer> due = new ArrayList<>();
        Matcher block = BLOCK.matcher(readme);
        while (block.find()) {
            for (String line : block.group(1).split("\n")) {
                Matcher call = CALL.matcher(line);
                if (!call.matches()) {
                    CHECK.holds("a call with its answer: " + line, line.startsWith("RehearsalDesk x = "));
                    code.append(line).append('\n');
                    continue;
                }
                String start = call.group(1) == null ? "" : call.group(1);
                code.append(start).append("answers[").append(shown.size()).append("] = ").append(call.group(2)).append(";\n");
                shown.add(call.group(2));
                due.add(Integer.valueOf(call.group(3)));
            }
        }
        CHECK.holds("there are calls", !shown.isEmpty());
        int[] got = answers(code.toString(), shown.size());
        for (int i = 0; i < got.length; i++) {
            CHECK.due(shown.get(i), got[i], due.get(i));
        }
    }

    /** Compiles the lines and does them. */
    private static int[] answers(String lines, int size) throws IOException, ReflectiveOperationException {
        Path out = Files.createTempDirectory("readme");
        try {
            Path source = out.resolve("ReadmeLines.java");
            Files.writeString(source, "public final class ReadmeLines { public static void fill(int[] answers) {\n" + lines + "} }\n");
            JavaCompiler compiler = ToolProvider.getSystemJavaCompiler();
            String classes = System.getProperty("java.class.path");
            int failed = compiler.run(null, null, null, "-cp", classes, "-d", out.toString(), source.toString());
            CHECK.due("compiling the lines", failed, 0);
            int[] answers = new int[size];
            if (failed == 0) {
                try (URLClassLoader loader = new URLClassLoader(new URL[] {out.toUri().toURL()})) {
                    loader.loadClass("ReadmeLines").getMethod("fill", int[].class).invoke(null, answers);
                }
            }
            return answers;
        } finally {
            try (Stream<Path> files = Files.list(out)) {
                for (Path file : files.toList()) {
                    Files.delete(file);
                }
            }
            Files.delete(out);
        }
    }

    private static void table(String readme) throws IOException {
        try (Stream<Path> files = Files.list(Path.of("src/test/java"))) {
            for (Path file : files.sorted().toList()) {
                String name = file.getFileName().toString().replace(".java", "");
                CHECK.holds("the table names " + name, !name.endsWith("Test") || readme.contains("\n| " + name + " | "));
            }
        }
    }
}
