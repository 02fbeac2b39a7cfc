import java.io.IOException;
import java.lang.reflect.InvocationTargetException;
import java.lang.reflect.Method;
import java.lang.reflect.Modifier;
import java.nio.file.Files;
import java.nio.file.Path;
import java.util.ArrayList;
import java.util.LinkedHashMap;
import java.util.List;
import java.util.Map;
import java.util.Set;
import java.util.TreeSet;

/**
 * Runs the boundary tests by the list that says which one belongs to which sentence of the document, and compares
 * the list with the document: all words of these sections stand in it, each piece with a test of its own, or with none.
 */
public final class BoundariesTest {
    private static final Path LIST = Path.of("src/test/boundaries.txt");
    private static final Path DOCUMENT = Path.of("../shared/DOC.md");
    private static final String NO_TEST = "-";
    private static final List<Class<?>> TESTS = List.of(TermsBoundaries.class, WeekBoundaries.class,
            MembersBoundaries.class, StoresBoundaries.class, ForesightBoundaries.class);

    /** Words of the document, and the name of the test that belongs to them. */
    private record Piece(String test, String words) {
    }

    private BoundariesTest() {
    }

    /** Runs the tests that are named, such as WeekBoundaries.theWeekIsOneGreater; without a name, the whole list. */
    public static void main(String[] args) throws IOException {
        List<String> tests = args.length > 0 ? List.of(args) : comparedList();
        for (String test : tests) {
            run(test);
        }
        Check.end();
    }

    /** The tests of the list, which is compared with the document and with the tests that there are. */
    private static List<String> comparedList() throws IOException {
        Map<String, List<Piece>> list = readList();
        // The tests need no document, so they run without it too.
        if (Files.exists(DOCUMENT)) {
            compareWithTheDocument(list);
        } else {
            System.out.println("no " + DOCUMENT + ", so the list is not compared with it");
        }
        List<String> named = new ArrayList<>();
        for (List<Piece> pieces : list.values()) {
            for (Piece piece : pieces) {
                if (!piece.test().equals(NO_TEST)) {
                    named.add(piece.test());
                }
            }
        }
        compareWithTheTests(named);
        return named;
    }

    private static Map<String, List<Piece>> readList() throws IOException {
        Map<String, List<Piece>> sections = new LinkedHashMap<>();
        List<Piece> pieces = new ArrayList<>();
        for (String line : Files.readAllLines(LIST)) {
            if (line.startsWith("## ")) {
                pieces = new ArrayList<>();
                sections.put(line.substring(3).trim(), pieces);
            } else if (!line.isBlank() && !line.startsWith("# ")) {
                int bar = line.indexOf('|');
                pieces.add(new Piece(line.substring(0, bar).trim(), spaced(line.substring(bar + 1))));
            }
        }
        return sections;
    }

    private static Map<String, String> readDocument() throws IOException {
        Map<String, String> sections = new LinkedHashMap<>();
        String title = "";
        for (String line : Files.readAllLines(DOCUMENT)) {
            if (line.startsWith("## ")) {
                title = line.substring(3).trim();
            } else if (!line.startsWith("```")) {
                sections.merge(title, line, (before, more) -> before + " " + more);
            }
        }
        return sections;
    }

    private static String spaced(String words) {
        return words.trim().replaceAll("\\s+", " ");
    }

    private static void compareWithTheDocument(Map<String, List<Piece>> list) throws IOException {
        Map<String, String> document = readDocument();
        for (Map.Entry<String, String> section : document.entrySet()) {
            String title = section.getKey();
            if (title.equals("What it is") || title.equals("Terms") || title.startsWith("Promise ")) {
                compareSection(title, spaced(section.getValue()), list.getOrDefault(title, List.of()));
            }
        }
        for (String title : list.keySet()) {
            Check.judge(document.containsKey(title), "section of the list: " + title, "in the document", "not");
        }
    }

    private static void compareSection(String title, String words, List<Piece> pieces) {
        String rest = words;
        for (Piece piece : pieces) {
            if (!rest.startsWith(piece.words())) {
                break;
            }
            rest = rest.substring(piece.words().length()).trim();
        }
        Check.judge(rest.isEmpty(), title, "each word in the list, in its order", "not from here on: " + rest);
    }

    private static void compareWithTheTests(List<String> named) {
        Set<String> due = new TreeSet<>();
        for (Class<?> tests : TESTS) {
            for (Method method : tests.getDeclaredMethods()) {
                if (isTest(method)) {
                    due.add(tests.getName() + "." + method.getName());
                }
            }
        }
        Set<String> got = new TreeSet<>(named);
        Check.same("tests named once", got.size(), named.size());
        Check.judge(due.equals(got), "the tests of the list", due.toString(), got.toString());
    }

    private static boolean isTest(Method method) {
        int modifiers = method.getModifiers();
        return Modifier.isStatic(modifiers) && !Modifier.isPrivate(modifiers) && !method.isSynthetic()
                && method.getParameterCount() == 0;
    }

    /** Runs one test; it fails too if it throws, or compares nothing. */
    static void run(String name) {
        int rightBefore = Check.rightSoFar();
        int wrongBefore = Check.wrongSoFar();
        String thrown = "nothing thrown";
        try {
            method(name).invoke(null);
        } catch (InvocationTargetException e) {
            thrown = e.getCause().toString();
        } catch (ReflectiveOperationException e) {
            thrown = e.toString();
        }
        Check.judge(thrown.equals("nothing thrown"), name, "nothing thrown", thrown);
        Check.judge(Check.rightSoFar() > rightBefore + 1, name, "something compared", "nothing");
        if (Check.wrongSoFar() > wrongBefore) {
            System.out.println("FAILED  " + name);
        }
    }

    private static Method method(String name) throws ReflectiveOperationException {
        int dot = name.indexOf('.');
        for (Class<?> tests : TESTS) {
            if (dot > 0 && tests.getName().equals(name.substring(0, dot))) {
                return tests.getDeclaredMethod(name.substring(dot + 1));
            }
        }
        throw new NoSuchMethodException(name);
    }
}
