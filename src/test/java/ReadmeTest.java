import java.io.IOException;
import java.lang.reflect.Method;
import java.lang.reflect.Modifier;
import java.nio.charset.StandardCharsets;
import java.nio.file.Files;
import java.nio.file.Path;
import java.nio.file.StandardCopyOption;
import java.util.ArrayList;
import java.util.Comparator;
import java.util.List;
import java.util.regex.Matcher;
import java.util.regex.Pattern;
import java.util.stream.Collectors;
import java.util.stream.Stream;

/** README.md: the calls it shows have the answers it tells, and what it says to type works in a clean checkout. */
public final class ReadmeTest {
    private static final Path README = Path.of("README.md");
    private static final Path SHARED = Path.of("../shared");
    private static final Path TESTS = Path.of("src/test/java");
    private static final List<Path> CHECKED_OUT = List.of(Path.of(".ci"), Path.of("src"), README);
    private static final String EXAMPLE = "Example";
    private static final String SHOWN = "System.out.println(";
    private static final String TOLD = "// ";

    private ReadmeTest() {
    }

    public static void main(String[] args) throws IOException, InterruptedException {
        List<String> readme = Files.readAllLines(README);
        List<List<String>> programs = blocks(readme, "java");
        Check.same("programs in the README", 1, programs.size());
        List<String> example = programs.get(0);
        for (Method method : CombersSociety.class.getDeclaredMethods()) {
            if (Modifier.isPublic(method.getModifiers())) {
                showsTheCall(method, example);
                tellsTheExceptions(method, readme);
            }
        }
        namesAllTests(readme);
        Path home = Files.createTempDirectory("readme");
        try {
            typeAll(blocks(readme, "sh"), example, cleanCheckout(home));
        } finally {
            delete(home);
        }
        Check.end();
    }

    private static List<List<String>> blocks(List<String> readme, String language) {
        List<List<String>> all = new ArrayList<>();
        boolean inside = false;
        for (String line : readme) {
            if (line.startsWith("```")) {
                inside = line.equals("```" + language);
                if (inside) {
                    all.add(new ArrayList<>());
                }
            } else if (inside) {
                all.get(all.size() - 1).add(line);
            }
        }
        return all;
    }

    private static void showsTheCall(Method method, List<String> example) {
        String call = "society." + method.getName() + "(";
        Check.judge(example.stream().anyMatch(line -> line.contains(call)), call, "shown", "not");
    }

    /** The item of a method names the exceptions of its throws clause, in their order, and no others. */
    private static void tellsTheExceptions(Method method, List<String> readme) {
        String due = Stream.of(method.getExceptionTypes()).map(Class::getSimpleName).collect(Collectors.joining(" "));
        List<String> got = new ArrayList<>();
        Matcher names = Pattern.compile("\\w+Exception\\b").matcher(itemOf(method.getName(), readme));
        while (names.find()) {
            got.add(names.group());
        }
        Check.judge(due.equals(String.join(" ", got)), "exceptions of " + method.getName(), due, got.toString());
    }

    private static String itemOf(String name, List<String> readme) {
        StringBuilder item = new StringBuilder();
        boolean inside = false;
        for (String line : readme) {
            inside = line.startsWith("- `" + name + "(") || inside && line.startsWith("  ");
            if (inside) {
                item.append(line).append('\n');
            }
        }
        Check.judge(item.length() > 0, "the item of " + name, "there", "not");
        return item.toString();
    }

    private static void namesAllTests(List<String> readme) throws IOException {
        try (Stream<Path> files = Files.list(TESTS)) {
            for (Path file : files.collect(Collectors.toList())) {
                String name = file.getFileName().toString().replace(".java", "");
                if (name.endsWith("Test")) {
                    boolean named = readme.stream().anyMatch(line -> line.startsWith("| `" + name + "` |"));
                    Check.judge(named, name, "in the table of tests", "not");
                }
            }
        }
    }

    /** A copy of what the commands need, with nothing else beside it, and the shared folder where it is to be. */
    private static Path cleanCheckout(Path home) throws IOException {
        Path checkout = Files.createDirectory(home.resolve("checkout"));
        for (Path part : CHECKED_OUT) {
            try (Stream<Path> files = Files.walk(part)) {
                for (Path file : files.collect(Collectors.toList())) {
                    Files.copy(file, checkout.resolve(file), StandardCopyOption.COPY_ATTRIBUTES);
                }
            }
        }
        Files.createSymbolicLink(home.resolve("shared"), SHARED.toRealPath());
        return checkout;
    }

    private static void typeAll(List<List<String>> commands, List<String> example, Path checkout)
            throws IOException, InterruptedException {
        Files.write(checkout.resolve(EXAMPLE + ".java"), example);
        boolean ran = false;
        for (List<String> block : commands) {
            for (String command : block) {
                if (command.startsWith(".ci/")) {
                    // .ci/run would run this test again without end, and .ci/mutants is no part of it.
                    Check.judge(Files.isExecutable(checkout.resolve(command)), command, "a program", "none");
                } else if (command.endsWith(" " + EXAMPLE)) {
                    compareAnswers(example, type(command, checkout));
                    ran = true;
                } else {
                    type(command, checkout);
                }
            }
        }
        Check.judge(ran, "the example", "run", "not");
    }

    private static List<String> type(String command, Path checkout) throws IOException, InterruptedException {
        Process process = new ProcessBuilder("bash", "-c", command).directory(checkout.toFile())
                .redirectError(ProcessBuilder.Redirect.INHERIT).start();
        String printed = new String(process.getInputStream().readAllBytes(), StandardCharsets.UTF_8);
        int code = process.waitFor();
        Check.judge(code == 0, command, "exit code 0", code + ": " + printed);
        return printed.lines().collect(Collectors.toList());
    }

    private static void compareAnswers(List<String> example, List<String> answers) {
        List<String> calls = example.stream().filter(line -> line.contains(SHOWN)).collect(Collectors.toList());
        Check.same("answers of the example", calls.size(), answers.size());
        for (int i = 0; i < Math.min(calls.size(), answers.size()); i++) {
            String due = toldBehind(calls.get(i));
            Check.judge(due.equals(answers.get(i)), calls.get(i).trim(), due, answers.get(i));
        }
    }

    private static String toldBehind(String call) {
        int from = call.indexOf(TOLD);
        Check.judge(from >= 0, call.trim(), "an answer behind it", "none");
        String told = from < 0 ? "" : call.substring(from + TOLD.length());
        return told.split(":", 2)[0].trim();
    }

    private static void delete(Path folder) throws IOException {
        try (Stream<Path> files = Files.walk(folder)) {
            for (Path file : files.sorted(Comparator.reverseOrder()).collect(Collectors.toList())) {
                Files.delete(file);
            }
        }
    }
}
