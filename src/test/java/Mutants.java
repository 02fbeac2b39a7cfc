import java.io.ByteArrayOutputStream;
import java.io.IOException;
import java.io.PrintStream;
import java.lang.reflect.Method;
import java.net.URL;
import java.net.URLClassLoader;
import java.nio.file.Files;
import java.nio.file.Path;
import java.util.LinkedHashMap;
import java.util.List;
import java.util.Map;
import java.util.Set;
import java.util.TreeSet;
import java.util.regex.Matcher;
import java.util.regex.Pattern;
import java.util.stream.Collectors;
import javax.tools.ToolProvider;

/**
 * Breaks the class as src/test/mutants.txt tells, a place at a time, and sees whether the boundary test named there
 * fails by it. No part of .ci/run, as it reads the program's text; run it by .ci/mutants when a test is new or changed.
 */
public final class Mutants {
    private static final Path SOURCE = Path.of("src/main/java/CombersSociety.java");
    private static final Path LIST = Path.of("src/test/mutants.txt");

    private final String source;
    private final Path tests;
    private int caught = 0;
    private int missed = 0;

    private Mutants(String source, Path tests) {
        this.source = source;
        this.tests = tests;
    }

    /** Wants the folder where the tests are compiled to. */
    public static void main(String[] args) throws Exception {
        Mutants mutants = new Mutants(Files.readString(SOURCE), Path.of(args[0]));
        Map<String, Integer> tried = new LinkedHashMap<>();
        String test = "";
        for (String line : Files.readAllLines(LIST)) {
            if (line.startsWith(" ")) {
                mutants.tryOne(test, line.trim());
                tried.merge(test, 1, Integer::sum);
            } else if (!line.isBlank() && !line.startsWith("#")) {
                test = line.trim();
            }
        }
        Set<String> untried = new TreeSet<>(testsOfTheList());
        untried.removeAll(tried.keySet());
        System.out.println(mutants.caught + " caught, " + mutants.missed + " not; tests without one: " + untried);
        System.exit(mutants.missed == 0 && untried.isEmpty() ? 0 : 1);
    }

    private static List<String> testsOfTheList() throws IOException {
        return Files.readAllLines(Path.of("src/test/boundaries.txt")).stream()
                .filter(line -> line.indexOf('|') > 0 && !line.startsWith("-") && !line.startsWith("#"))
                .map(line -> line.substring(0, line.indexOf('|')).trim())
                .collect(Collectors.toList());
    }

    private void tryOne(String test, String change) throws Exception {
        String broken = changed(change);
        if (broken.equals(source)) {
            missed++;
            System.out.println("FINDS NO PLACE  " + test + ": " + change);
            return;
        }
        Path folder = Files.createTempDirectory("mutant");
        Path file = Files.writeString(folder.resolve("CombersSociety.java"), broken);
        int result = ToolProvider.getSystemJavaCompiler().run(null, null, null, "-d", folder.toString(), file.toString());
        if (result == 0 && fails(test, folder)) {
            caught++;
        } else {
            missed++;
            System.out.println((result == 0 ? "NOT CAUGHT  " : "DOES NOT COMPILE  ") + test + ": " + change);
        }
        for (String name : folder.toFile().list()) {
            Files.delete(folder.resolve(name));
        }
        Files.delete(folder);
    }

    /** A change is "old => new", or "where >> old => new": then it is the first old one behind that place. */
    private String changed(String change) {
        String[] sides = change.split(" =>", 2);
        String[] places = sides[0].split(" >> ", 2);
        int from = 0;
        if (places.length == 2) {
            from = Math.max(0, source.indexOf(places[0]));
        }
        String spaced = Pattern.quote(places[places.length - 1].trim()).replace(" ", "\\E\\s+\\Q");
        Matcher matcher = Pattern.compile(spaced).matcher(source);
        if (!matcher.find(from)) {
            return source;
        }
        return source.substring(0, matcher.start()) + sides[1].trim() + source.substring(matcher.end());
    }

    private boolean fails(String test, Path folder) throws Exception {
        URL[] path = {folder.toUri().toURL(), tests.toUri().toURL()};
        PrintStream out = System.out;
        try (URLClassLoader loader = new URLClassLoader(path, ClassLoader.getPlatformClassLoader())) {
            System.setOut(new PrintStream(new ByteArrayOutputStream()));
            Method run = loader.loadClass("BoundariesTest").getDeclaredMethod("run", String.class);
            Method wrong = loader.loadClass("Check").getDeclaredMethod("wrongSoFar");
            run.setAccessible(true);
            wrong.setAccessible(true);
            run.invoke(null, test);
            return (int) wrong.invoke(null) > 0;
        } finally {
            System.setOut(out);
        }
    }
}
