import java.io.IOException;
import java.lang.reflect.Method;
import java.lang.reflect.Modifier;
import java.nio.charset.StandardCharsets;
import java.nio.file.Files;
import java.nio.file.Path;
import java.nio.file.attribute.PosixFilePermission;
import java.util.ArrayList;
import java.util.Arrays;
import java.util.List;
import java.util.TreeSet;
import java.util.regex.Matcher;
import java.util.regex.Pattern;

/** Whether README.md tells of the class as it is, and whether its commands and its example work. */
final class ReadmeTests {
    private static final Path README = Path.of("README.md");
    private static final Path EXAMPLE = Path.of("src", "example", "java", "Example.java");
    private static final Pattern BLOCK =
            Pattern.compile("^```(\\w*)\n(.*?)^```\n", Pattern.MULTILINE | Pattern.DOTALL);
    private static final Pattern ROW =
            Pattern.compile("^\\| `(\\w+ \\w+\\(.*?\\))` \\| (.*) \\| (.*) \\|$", Pattern.MULTILINE);
    private static final Pattern REASON = Pattern.compile("(?:^|\\. )(Index|Argument|State)(?=[.:])");

    private ReadmeTests() {
    }

    private static String page() throws IOException {
        return Files.readString(README, StandardCharsets.UTF_8);
    }

    /** What stands between fences of a language, one text for each pair of them. */
    private static List<String> blocksOf(String language) throws IOException {
        List<String> blocks = new ArrayList<>();
        Matcher matcher = BLOCK.matcher(page());
        while (matcher.find()) {
            if (matcher.group(1).equals(language)) {
                blocks.add(matcher.group(2));
            }
        }
        return blocks;
    }

    /** What commands print in the directory of the checkout; they are due to end with exit code 0. */
    private static String printOf(String commands) throws IOException, InterruptedException {
        Process process = new ProcessBuilder("sh", "-e", "-c", commands).redirectErrorStream(true).start();
        process.getOutputStream().close();
        String print = new String(process.getInputStream().readAllBytes(), StandardCharsets.UTF_8);
        Checks.same(commands + print + "exit code", process.waitFor(), 0);
        return print;
    }

    private static String callOf(Method method) {
        return method.getReturnType().getName() + " " + method.getName() + " " + method.getParameterCount()
                + " " + Arrays.stream(method.getExceptionTypes()).map(Class::getSimpleName).toList();
    }

    private static String callOf(String call, String reasons) {
        String inner = call.substring(call.indexOf('(') + 1, call.length() - 1);
        int parameters = inner.isEmpty() ? 0 : inner.split(", ").length;
        List<String> thrown = new ArrayList<>();
        Matcher matcher = REASON.matcher(reasons);
        while (matcher.find()) {
            thrown.add(switch (matcher.group(1)) {
                case "Index" -> "IndexOutOfBoundsException";
                case "Argument" -> "IllegalArgumentException";
                default -> "IllegalStateException";
            });
        }
        Checks.is(call + ": 'Nothing.' stands where nothing is thrown", thrown.isEmpty() == reasons.equals("Nothing."));
        return call.substring(0, call.indexOf('(')) + " " + parameters + " " + thrown;
    }

    static void readme_tells_each_call_once_with_what_it_throws_in_its_order() throws IOException {
        TreeSet<String> due = new TreeSet<>();
        for (Method method : SettlementRing.class.getDeclaredMethods()) {
            if (Modifier.isPublic(method.getModifiers())) {
                due.add(callOf(method));
            }
        }
        TreeSet<String> told = new TreeSet<>();
        Matcher matcher = ROW.matcher(page());
        while (matcher.find()) {
            Checks.is(matcher.group(1) + " is told once", told.add(callOf(matcher.group(1), matcher.group(3))));
        }
        Checks.same("calls that are told", String.join("\n", told), String.join("\n", due));
    }

    static void readme_names_the_constants() throws IOException, IllegalAccessException {
        for (var field : SettlementRing.class.getFields()) {
            String constant = "`" + field.getName() + "` (" + field.get(null) + ")";
            Checks.is(constant + " is named", page().contains(constant));
        }
    }

    static void readme_names_each_class_of_tests() throws IOException {
        for (Class<?> tests : RunTests.TESTS) {
            Checks.is(tests.getName() + " is named", page().contains("`" + tests.getName() + "`"));
        }
    }

    static void readme_shows_the_example_and_what_it_prints() throws IOException, InterruptedException {
        List<String> programs = blocksOf("java");
        Checks.same("programs", programs.size(), 1);
        Checks.same("the example", programs.get(0), Files.readString(EXAMPLE, StandardCharsets.UTF_8));
        List<String> prints = blocksOf("");
        Checks.same("prints", prints.size(), 1);
        Checks.same("what is printed", printOf(blocksOf("sh").get(0)), prints.get(0));
    }

    /** Those that run all tests of the project are left to .ci/run, as they would come back here. */
    static void readme_gives_commands_that_work() throws IOException, InterruptedException {
        int run = 0;
        for (String commands : blocksOf("sh")) {
            if (!commands.contains(".ci/run") && !commands.contains("RunTests")) {
                printOf(commands);
                run++;
            }
        }
        Checks.same("commands that were run", run, 3);
        Checks.is(".ci/run is executable",
                Files.getPosixFilePermissions(Path.of(".ci", "run")).contains(PosixFilePermission.OWNER_EXECUTE));
    }
}
