import java.io.IOException;
import java.lang.reflect.Method;
import java.lang.reflect.Modifier;
import java.nio.file.Files;
import java.nio.file.Path;
import java.util.Arrays;
import java.util.List;
import java.util.Set;
import java.util.TreeSet;
import java.util.concurrent.Callable;
import java.util.regex.Matcher;
import java.util.regex.Pattern;
import java.util.stream.Collectors;
import java.util.stream.Stream;

/** What README.md shows: calls and their answers, all calls with what they throw, and the tests that there are. */
public final class ReadmeTest {
    private static final Check CHECK = new Check();
    private static final Path TESTS = Path.of("src/test/java");
    private static final Pattern ROW = Pattern.compile("\\| `(\\w+ \\w+\\([^)]*\\))` \\|[^|]+\\|([^|]*)\\|");

    public static void main(String[] args) throws IOException, ReflectiveOperationException {
        List<String> page = Files.readAllLines(Path.of("README.md"));
        callsAnswerAsShown(new ReadmeProgram(page));
        tableHasAllCalls(page);
        tableHasAllTests(page);
        CHECK.done();
    }

    private static void callsAnswerAsShown(ReadmeProgram program) throws IOException, ReflectiveOperationException {
        CHECK.same("lines without an answer", List.of(), program.unclear());
        int[] looked = {0};
        program.run((number, call) -> {
            looked[0]++;
            CHECK.same(program.calls().get(number), program.answer(number), answer(call));
        });
        CHECK.same("calls looked at", program.calls().size(), looked[0]);
        for (Method method : face()) {
            CHECK.same("README.md shows " + method.getName(), true, program.uses(method.getName()));
        }
    }

    private static String answer(Callable<?> call) {
        try {
            return String.valueOf(call.call());
        } catch (Exception e) {
            return "throws " + e.getClass().getSimpleName();
        }
    }

    private static List<Method> face() {
        return Arrays.stream(FormOffice.class.getDeclaredMethods())
                .filter(method -> Modifier.isPublic(method.getModifiers())).collect(Collectors.toList());
    }

    private static void tableHasAllCalls(List<String> page) {
        Set<String> due = new TreeSet<>();
        for (Method method : face()) {
            due.add(method.getReturnType() + " " + method.getName() + names(method.getParameterTypes()) + " throws "
                    + names(method.getExceptionTypes()));
        }
        Set<String> shown = new TreeSet<>();
        for (String line : page) {
            Matcher row = ROW.matcher(line);
            if (row.matches()) {
                shown.add(withoutParameterNames(row.group(1)) + " throws (" + row.group(2).trim() + ")");
            }
        }
        CHECK.same("table of all calls", due, shown);
    }

    private static String names(Class<?>[] types) {
        return Arrays.stream(types).map(Class::getSimpleName).collect(Collectors.joining(", ", "(", ")"));
    }

    /** A compiled class does not tell the names of parameters. */
    private static String withoutParameterNames(String signature) {
        int open = signature.indexOf('(');
        return signature.substring(0, open) + signature.substring(open).replaceAll(" \\w+(?=[,)])", "");
    }

    private static void tableHasAllTests(List<String> page) throws IOException {
        String rows = page.stream().filter(line -> line.startsWith("| `")).collect(Collectors.joining());
        try (Stream<Path> files = Files.list(TESTS)) {
            files.map(file -> file.getFileName().toString()).filter(name -> name.endsWith("Test.java"))
                    .map(name -> name.substring(0, name.length() - ".java".length()))
                    .forEach(name -> CHECK.same("a row for " + name, true, rows.contains("`" + name + "`")));
        }
    }
}
