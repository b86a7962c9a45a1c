import java.io.IOException;
import java.lang.reflect.Method;
import java.lang.reflect.Modifier;
import java.nio.file.Files;
import java.nio.file.Path;
import java.util.List;
import java.util.regex.Matcher;
import java.util.regex.Pattern;
import java.util.stream.Stream;

/** The example of README.md and its answers, and that the page names each method, each error and each test. */
public final class ReadmeTest extends Answers {
    private static final Pattern EXAMPLE = Pattern.compile("(?s)```java\n(.*?)```");
    private static final Pattern CALL = Pattern.compile("net\\.(\\w+)\\((.*)\\); +// (-?\\w+)(:.*)?");
    private static final String MADE = "InterestNet net = new InterestNet();";

    public static void main(String[] args) throws IOException, ReflectiveOperationException {
        String page = Files.readString(Path.of("README.md"));
        exampleIsRight(page);
        methodsAreNamed(page);
        errorsAreThoseOfTheDocument(page);
        constantsAreRight(page);
        testsAreNamed(page);
        howToRunIsRight(page);
        finish();
    }

    private static void dueIn(String page, String text) {
        due("whether the page says '" + text + "'", page.contains(text) ? 1 : 0, 1);
    }

    private static void exampleIsRight(String page) throws ReflectiveOperationException {
        part = "the example of README.md";
        InterestNet net = null;
        int calls = 0;
        Matcher example = EXAMPLE.matcher(page);
        while (example.find()) {
            for (String line : example.group(1).split("\n")) {
                if (line.equals(MADE)) {
                    net = new InterestNet();
                } else if (!line.isBlank()) {
                    dueAnswer(net, line);
                    calls++;
                }
            }
        }
        due("whether there is an example", calls > 0 ? 1 : 0, 1);
    }

    private static void dueAnswer(InterestNet net, String line) throws ReflectiveOperationException {
        Matcher call = CALL.matcher(line);
        boolean isCall = net != null && call.matches();
        due("whether '" + line + "' is a call with its answer", isCall ? 1 : 0, 1);
        if (isCall) {
            String[] told = call.group(2).isEmpty() ? new String[0] : call.group(2).split(", ");
            Object[] arguments = Stream.of(told).map(ReadmeTest::numberOf).toArray();
            Number got = (Number) methodNamed(call.group(1)).invoke(net, arguments);
            due(line, got.longValue(), answerOf(call.group(3)));
        }
    }

    private static Integer numberOf(String argument) {
        return argument.startsWith("'") ? argument.charAt(1) : Integer.valueOf(argument);
    }

    private static long answerOf(String told) throws ReflectiveOperationException {
        return Character.isUpperCase(told.charAt(0)) ? InterestNet.class.getField(told).getInt(null) : Long.parseLong(told);
    }

    private static List<Method> methods() {
        return Stream.of(InterestNet.class.getDeclaredMethods()).filter(one -> Modifier.isPublic(one.getModifiers()))
                .toList();
    }

    private static Method methodNamed(String name) {
        return methods().stream().filter(one -> one.getName().equals(name)).findFirst().orElseThrow();
    }

    private static void methodsAreNamed(String page) {
        part = "the methods of README.md";
        for (Method method : methods()) {
            String parameter = "\\w+";
            String parameters = (parameter + ", ").repeat(method.getParameterCount()).replaceAll(", $", "");
            Matcher row = Pattern.compile("(?m)^\\| `" + method.getName() + "\\(" + parameters + "\\)` \\|").matcher(page);
            due("how many rows are of " + method.getName(), row.results().count(), 1);
        }
    }

    /** Each method's row ends with the errors that its promise tells in its last line 'Returns ..'. */
    private static void errorsAreThoseOfTheDocument(String page) throws IOException {
        String document = Files.readString(Path.of("../shared/DOC.md"));
        part = "the errors of README.md";
        for (Method method : methods()) {
            String name = method.getName();
            Matcher promise = Pattern.compile("(?s)\n`(?:int|long) " + name + "\\((?:(?!\n## ).)*\nReturns ([^\n]*)")
                    .matcher(document);
            Matcher row = Pattern.compile("(?m)^\\| `" + name + "\\(.*\\|(.*)\\|$").matcher(page);
            boolean areThere = promise.find() && row.find();
            due("whether promise and row of " + name + " are there", areThere ? 1 : 0, 1);
            for (String error : List.of("NONE", "BAD_INDEX", "BAD_VALUE", "BAD_STATE", "FULL")) {
                if (areThere) {
                    due("whether the row of " + name + " tells " + error, row.group(1).contains(error) ? 1 : 0,
                            promise.group(1).contains(error) ? 1 : 0);
                }
            }
        }
    }

    private static void constantsAreRight(String page) throws ReflectiveOperationException {
        part = "the constants of README.md";
        for (String name : List.of("NONE", "BAD_INDEX", "BAD_VALUE", "BAD_STATE", "FULL")) {
            dueIn(page, "| `" + name + "` | " + answerOf(name) + " |");
        }
    }

    private static void testsAreNamed(String page) throws IOException {
        part = "the tests of README.md";
        try (Stream<Path> files = Files.list(Path.of("src/test/java"))) {
            for (Path file : files.toList()) {
                dueIn(page, "`" + file.getFileName().toString().replace(".java", "") + "`");
            }
        }
    }

    private static void howToRunIsRight(String page) throws IOException {
        part = "how README.md says that the tests are run";
        String script = Files.readString(Path.of(".ci/run"));
        dueIn(page, "\n    .ci/run\n");
        for (String end : List.of("all tests passed", "failed:")) {
            dueIn(script, "echo \"" + end);
            dueIn(page, "`" + end + "`");
        }
    }
}
