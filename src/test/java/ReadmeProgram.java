import java.io.IOException;
import java.net.URL;
import java.net.URLClassLoader;
import java.nio.file.Files;
import java.nio.file.Path;
import java.util.ArrayList;
import java.util.List;
import java.util.concurrent.Callable;
import java.util.function.BiConsumer;
import java.util.regex.Matcher;
import java.util.regex.Pattern;
import javax.tools.ToolProvider;

/**
 * The program that README.md's blocks of Java make, in a row. A block that begins with "static" has methods; each
 * line of another one makes an office, or shows a call with its answer, or is empty.
 */
final class ReadmeProgram {
    private static final String NAME = "ReadmeUse";
    private static final Pattern OFFICE = Pattern.compile("FormOffice \\w+ = new FormOffice\\(\\);");
    private static final Pattern CALL = Pattern.compile("(\\S.*\\)); +// (throws \\w+|[-\\w.]+)(: .+)?");

    private final StringBuilder methods = new StringBuilder();
    private final StringBuilder statements = new StringBuilder();
    private final List<String> calls = new ArrayList<>();
    private final List<String> answers = new ArrayList<>();
    private final List<String> unclear = new ArrayList<>();

    ReadmeProgram(List<String> page) {
        for (int i = 0; i < page.size(); i++) {
            if (page.get(i).equals("```java")) {
                int end = i + 1 + page.subList(i + 1, page.size()).indexOf("```");
                addBlock(page.subList(i + 1, end));
                i = end;
            }
        }
    }

    private void addBlock(List<String> block) {
        if (block.get(0).startsWith("static ")) {
            methods.append(String.join("\n", block)).append('\n');
            return;
        }
        for (String line : block) {
            addStatement(line);
        }
    }

    private void addStatement(String line) {
        Matcher call = CALL.matcher(line);
        if (call.matches()) {
            statements.append("shown.accept(").append(calls.size()).append(", () -> ").append(call.group(1));
            statements.append(");\n");
            calls.add(call.group(1));
            answers.add(call.group(2));
        } else if (OFFICE.matcher(line).matches()) {
            statements.append(line).append('\n');
        } else if (!line.isEmpty()) {
            unclear.add(line);
        }
    }

    /** Lines that are neither an office nor a call with an answer: what they say could not be looked at. */
    List<String> unclear() {
        return unclear;
    }

    List<String> calls() {
        return calls;
    }

    String answer(int call) {
        return answers.get(call);
    }

    boolean uses(String method) {
        return (methods + String.join("\n", calls)).contains("." + method + "(");
    }

    /** Compiles and runs the program; each shown call is handed, with its number, to the one that looks at it. */
    void run(BiConsumer<Integer, Callable<?>> shown) throws IOException, ReflectiveOperationException {
        Path folder = Files.createTempDirectory("readme");
        Path source = folder.resolve(NAME + ".java");
        try {
            Files.writeString(source, text());
            compile(source, folder);
            try (URLClassLoader loader = new URLClassLoader(new URL[] {folder.toUri().toURL()})) {
                loader.loadClass(NAME).getMethod("run", BiConsumer.class).invoke(null, shown);
            }
        } finally {
            Files.deleteIfExists(source);
            Files.deleteIfExists(folder.resolve(NAME + ".class"));
            Files.deleteIfExists(folder);
        }
    }

    private String text() {
        return "import java.util.concurrent.Callable;\nimport java.util.function.BiConsumer;\n"
                + "public final class " + NAME + " {\n" + methods
                + "public static void run(BiConsumer<Integer, Callable<?>> shown) {\n" + statements + "}\n}\n";
    }

    private static void compile(Path source, Path folder) {
        int wrong = ToolProvider.getSystemJavaCompiler().run(null, null, null, "-encoding", "UTF-8", "-cp",
                System.getProperty("java.class.path"), "-d", folder.toString(), source.toString());
        if (wrong != 0) {
            throw new AssertionError("what README.md shows does not compile");
        }
    }
}
